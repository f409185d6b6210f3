/-! ===== the reference walks the forest ===== -/
section Walk72
variable {V : Vw} {t : Int} {e : Nat} {J : IM}
theorem sp_X11_walks (hG : Good V) (ht : 0 ≤ t ∧ t < vm V) : ∀ (d : Nat) {I : IM} {x p : Int} {n : Nat} {Q : Post}, Rrw I 201 0 V → (∀ k : Int, 0 ≤ k → k < 144 → I 211 k = if fT (forest V) k = true then 1 else 0) → (0 ≤ x ∧ x < vm V) → par V p x → ssz V p x ≤ d → I 200 17 = n → n + ssz V p x ≤ 12 →
    (∀ I' : IM, (∀ q, q ≠ 200 → q ≠ 213 → I' q = I q) → (∀ k, k ≠ 17 → I' 200 k = I 200 k) → (∀ k : Int, k < n → I' 213 k = I 213 k) →
      (hit V p x t → I' 200 17 = n + fd V x t + 1 → (∀ i : Nat, (i : Int) ≤ fd V x t → I' 213 (n + i) = pth V t x i) → Q (.inl (some (.int (i32 1)))) (ME e I' J)) ∧
      (¬ hit V p x t → I' 200 17 = n → Q (.inl (some (.int (i32 0)))) (ME e I' J))) →
    SX11_walks d [.ref 200, .int (i32 x), .int (i32 t), .int (i32 p)] (ME e I J) Q := by
  intro d
  induction d with
  | zero =>
    intro I x p n Q hW hT hx hp hs
    have m := hG.1
    have := (ssz_pos hG (x := x) ⟨hx.1, by omega⟩ hp).1
    omega
  | succ d ih =>
    intro I x p n Q hW hT hx hp hs hn hn2 hQ
    have m := hG.1
    have hxm : mark12 x := ⟨hx.1, by omega⟩
    have htm : mark12 t := ⟨ht.1, by omega⟩
    have sp := ssz_pos hG hxm hp
    have pb : -1 ≤ p ∧ p < 12 := by
      rcases hp with h | ⟨h, _⟩
      · omega
      · have := h.1; have := h.2; omega
    refine x_in (Nat.le_of_ble_eq_true rfl) ?_
    dsimp only [bX11_walks, bX11_walks_0]
    refine x_gR rfl rfl (x_gI rfl ?_)
    rw [show I 200 ((17 : Nat) : Int) = (n : Int) from hn]
    refine x_sA rfl (by omega) (by omega) (by omega) (x_gI rfl ?_)
    rw [show up I 213 n x 200 ((17 : Nat) : Int) = (n : Int) by rw [up_q (by omega)]; exact hn, show (1 : Int32) = i32 1 from rfl, i32_add]
    refine x_pI rfl ?_
    rw [show ((17 : Nat) : Int) = 17 from rfl]
    have f1 : ∀ q, q ≠ 200 → q ≠ 213 → up (up I 213 n x) 200 17 ((n : Int) + 1) q = I q := fun q a b => by rw [up_qf a, up_qf b]
    have c1 : up (up I 213 n x) 200 17 ((n : Int) + 1) 200 17 = (n : Int) + 1 := up_self
    have c2 : ∀ k, k ≠ 17 → up (up I 213 n x) 200 17 ((n : Int) + 1) 200 k = I 200 k := fun k h => by rw [up_k h, up_q (by omega)]
    have c3 : ∀ k : Int, k < n → up (up I 213 n x) 200 17 ((n : Int) + 1) 213 k = I 213 k := fun k h => by rw [up_q (by omega), up_k (by omega)]
    have c4 : up (up I 213 n x) 200 17 ((n : Int) + 1) 213 n = x := by rw [up_q (by omega), up_self]
    generalize up (up I 213 n x) 200 17 ((n : Int) + 1) = I1 at *
    refine x_eq (by omega) (by omega) (fun hxt => ?_) (fun hxt => ?_)
    · subst hxt
      have z := ((fd_TI hG).1 x hxm).1
      refine x_rZ (v := 1) (by omega) ((hQ I1 f1 c2 c3).1 (hit_x hG hxm hp) (by rw [c1, z]; omega) (fun i hi => ?_))
      have : i = 0 := by omega
      subst this
      rw [show (n : Int) + ((0 : Nat) : Int) = n by omega, c4]; rfl
    refine x_for (vm V) (fun y av μ => ∃ I2 : IM, av = [.ref 200, .int (i32 x), .int (i32 t), .int (i32 p), .int (i32 y)] ∧ μ = ME e I2 J ∧ (∀ q, q ≠ 200 → q ≠ 213 → I2 q = I q) ∧ (∀ k, k ≠ 17 → I2 200 k = I 200 k) ∧ (∀ k : Int, k < n + 1 → I2 213 k = I1 213 k) ∧ I2 200 17 = (n : Int) + 1 ∧ ∀ z : Int, 0 ≤ z → z < y → ¬ (z ≠ x ∧ z ≠ p ∧ fT (forest V) (pq x z) = true ∧ hit V x z t)) ?_ ?_ (Nat.zero_le _) ⟨I1, by simp only [Int.cast_ofNat_Int, Int.natCast_add, Int.toNat_natCast, i32_add, i32_sub, i32_mul, i32_neg, i32_lit, i64_add, i64_sub, i64_mul, i64_neg, i64_lit, i64_int], rfl, f1, c2, fun k _ => rfl, c1, fun z a b => by omega⟩
    · rintro y av μ hy ⟨I2, rfl, rfl, hf, h17, h13, hc17, hno⟩ hJ
      dsimp only [bX11_walks, bX11_walks_1]
      have hW2 : Rrw I2 201 0 V := hW.keep (hf 201 (by omega) (by omega))
      have hT2 : ∀ k : Int, 0 ≤ k → k < 144 → I2 211 k = if fT (forest V) k = true then 1 else 0 := by rw [hf 211 (by omega) (by omega)]; exact hT
      have next : ∀ I3 : IM, (∀ q, q ≠ 200 → q ≠ 213 → I3 q = I q) → (∀ k, k ≠ 17 → I3 200 k = I 200 k) → (∀ k : Int, k < n + 1 → I3 213 k = I1 213 k) → I3 200 17 = (n : Int) + 1 → ¬ ((y : Int) ≠ x ∧ (y : Int) ≠ p ∧ fT (forest V) (pq x y) = true ∧ hit V x y t) → fx (bX11_walks (SX11_walks d)) 1 [.ref 200, .int (i32 x), .int (i32 t), .int (i32 p), .int (i32 ((y : Int) + 1))] (ME e I3 J) Q := by
        intro I3 g1 g2 g3 g4 g5
        refine hJ _ _ ⟨I3, by simp only [Int.cast_ofNat_Int, Int.natCast_add, Int.toNat_natCast, i32_add, i32_sub, i32_mul, i32_neg, i32_lit, i64_add, i64_sub, i64_mul, i64_neg, i64_lit, i64_int], rfl, g1, g2, g3, g4, fun z a b => ?_⟩
        by_cases hz : z = y
        · subst hz; exact g5
        · exact hno z a (by omega)
      refine x_ob rfl (x_cI (sp_X11_marks hW2 (x_le (by omega) (by omega) (fun h => by omega) (fun _ => ?_))))
      rw [show (1 : Int32) = i32 1 from rfl, i32_add]
      refine x_eq (by omega) (by omega) (fun h => ?_) (fun hyp => ?_)
      · exact next I2 hf h17 h13 hc17 (fun q => q.2.1 h)
      refine x_eq (by omega) (by omega) (fun h => ?_) (fun hyx => ?_)
      · exact next I2 hf h17 h13 hc17 (fun q => q.1 h)
      have hym : mark12 (y : Int) := ⟨by omega, by omega⟩
      have pg := pq_rg (a := x) (b := (y : Int)) (m := 12) hxm hym (by omega) (fun h => hyx h.symm)
      have t2 := hT2 (pq x y) pg.1 pg.2.1
      refine x_gR rfl rfl (x_cI (sp_X11_pairOf hxm hym (x_aB rfl (Or.inr rfl) pg.1 pg.2.1 (by omega) ?_)))
      rw [t2, show (0 : Int32) = i32 0 from rfl]
      by_cases hk : fT (forest V) (pq x y) = true
      · rw [if_pos hk]
        refine x_eq (by omega) (by omega) (fun h => by omega) (fun _ => ?_)
        have sz := kid_sz hG hxm hp hym hyx hyp hk
        have par2 : par V x y := Or.inr ⟨hxm, fun h => hyx h.symm, hk⟩
        refine x_ob rfl (x_cI (ih (n := n + 1) hW2 hT2 (by omega) par2 (by omega) (by rw [hc17]; omega) (by omega) fun I3 g1 g2 g3 => ⟨fun hh a b => ?_, fun hh a => ?_⟩))
        · refine x_eq (by omega) (by omega) (fun h => by omega) (fun _ => ?_)
          have ko := kid_only hG hxm htm hp hym hyx hyp hk hh
          refine x_rZ (v := 1) (by omega) ((hQ I3 (fun q a b => by rw [g1 q a b, hf q a b]) (fun k h => by rw [g2 k h, h17 k h]) (fun k h => by rw [g3 k (by omega), h13 k (by omega), c3 k h])).1 ko.2.1 (by rw [a, ko.2.2]; omega) (fun i hi => ?_))
          cases i with
          | zero => rw [show (n : Int) + ((0 : Nat) : Int) = n by omega, g3 n (by omega), h13 n (by omega), c4]; rfl
          | succ i =>
            rw [pth_succ, ko.1, show (n : Int) + ((i + 1 : Nat) : Int) = ((n + 1 : Nat) : Int) + i by omega]
            exact b i (by omega)
        · refine x_eq (by omega) (by omega) (fun _ => ?_) (fun h => by omega)
          exact next I3 (fun q a b => by rw [g1 q a b, hf q a b]) (fun k h => by rw [g2 k h, h17 k h]) (fun k h => by rw [g3 k (by omega), h13 k h]) (by rw [a]; omega) (fun q => hh q.2.2.2)
      · rw [if_neg hk]
        refine x_eq (by omega) (by omega) (fun _ => ?_) (fun h => by omega)
        exact next I2 hf h17 h13 hc17 (fun q => hk q.2.2.1)
    · rintro av μ ⟨I2, rfl, rfl, hf, h17, h13, hc17, hno⟩
      dsimp only [bX11_walks, bX11_walks_1]
      have hW2 : Rrw I2 201 0 V := hW.keep (hf 201 (by omega) (by omega))
      have nh : ¬ hit V p x t := fun h => by
        have k := hit_kid hG hxm htm hp hxt h
        have km := kid_m hG hxm k.2.1 k.2.2.1 k.2.2.2.1
        exact hno _ k.2.1.1 km ⟨k.2.2.1, k.1, k.2.2.2.1, k.2.2.2.2⟩
      refine x_ob rfl (x_cI (sp_X11_marks hW2 (x_le (by omega) (by omega) (fun _ => ?_) (fun h => by omega))))
      refine x_gI rfl ?_
      rw [show I2 200 ((17 : Nat) : Int) = (n : Int) + 1 from hc17, show (1 : Int32) = i32 1 from rfl, i32_sub, show (n : Int) + 1 - 1 = n by omega]
      refine x_pI rfl ?_
      rw [show ((17 : Nat) : Int) = 17 from rfl, show (0 : Int32) = i32 0 from rfl]
      exact x_rZ (v := 0) (by omega) ((hQ _ (fun q a b => by rw [up_qf a]; exact hf q a b) (fun k h => by rw [up_k h]; exact h17 k h) (fun k h => by rw [up_q (by omega), h13 k (by omega), c3 k h])).2 nh up_self)
theorem sp_X11_findsWay {Q : Post} {I : IM} {x : Int} (hG : Good V) (ht : 0 ≤ t ∧ t < vm V) (hx : 0 ≤ x ∧ x < vm V) (hW : Rrw I 201 0 V) (hR : Rk I V)
    (hQ : ∀ I' : IM, (∀ q, q ≠ 200 → q ≠ 213 → I' q = I q) → (∀ k, k ≠ 17 → I' 200 k = I 200 k) →
      (jn V x t → I' 200 17 = fd V x t + 1 → (∀ i : Nat, (i : Int) ≤ fd V x t → I' 213 i = pth V t x i) → Q (.inl (some (.int (i32 1)))) (ME e I' J)) ∧
      (¬ jn V x t → I' 200 17 = 0 → Q (.inl (some (.int (i32 0)))) (ME e I' J))) : SX11_findsWay [.ref 200, .int (i32 x), .int (i32 t)] (ME e I J) Q := by
  refine x_in (Nat.le_of_ble_eq_true rfl) ?_
  dsimp only [bX11_findsWay, bX11_findsWay_0]
  have m := hG.1
  have hxm : mark12 x := ⟨hx.1, by omega⟩
  have sp := ssz_pos hG hxm (Or.inl rfl : par V (-1) x)
  rw [show (0 : Int32) = i32 0 from rfl, show (-1 : Int32) = i32 (-1) from rfl]
  refine x_pI rfl ?_
  rw [show ((17 : Nat) : Int) = 17 from rfl]
  refine x_ob rfl (x_cI (sp_X11_walks hG ht 13 (n := 0) (hW.up (by omega)) (fun k a b => by rw [up_q (by omega)]; exact hR.2.1 k a b) hx (Or.inl rfl) (by omega) up_self (by omega) fun I' g1 g2 g3 => ⟨fun h a b => ?_, fun h a => ?_⟩))
  · refine x_rZ (v := 1) (by omega) ((hQ I' (fun q a b => by rw [g1 q a b, up_qf a]) (fun k h => by rw [g2 k h, up_k h])).1 h.1 (by rw [a]; omega) fun i hi => ?_)
    have := b i hi
    rwa [show ((0 : Nat) : Int) + (i : Int) = i by omega] at this
  · exact x_rZ (v := 0) (by omega) ((hQ I' (fun q a b => by rw [g1 q a b, up_qf a]) (fun k h => by rw [g2 k h, up_k h])).2 (fun q => h ⟨q, Or.inl rfl⟩) (by rw [a]; rfl))
end Walk72
