/-! ===== the reference: it levels ===== -/
def nxk (V : Vw) (H : Hw) (c : Int → Int) (K : Nat) : Int := if (lvs V H c K).1 = -1 then -1 else 12 * (lvs V H c K).1 + (lvs V H c K).2.1
theorem lvs_cost (V : Vw) (H : Hw) (c : Int → Int) : ∀ K : Nat, (lvs V H c K).1 = -1 ∨ (lvs V H c K).2.2 = c (lvs V H c K).2.1 + dst V (lvs V H c K).2.1 (lvs V H c K).1 := by
  intro K
  induction K with
  | zero => exact Or.inl rfl
  | succ K ih =>
    simp only [lvs]
    split
    · exact Or.inr rfl
    · exact ih
theorem rf_rfk (V : Vw) {a b : Int} (ha : mark12 a) (hb : mark12 b) (h : a ≠ b) : rf V a b = rfk V (pq a b) a := by
  unfold rf rfk mark12 at *
  rcases Int.lt_or_gt_of_ne h with x | x
  · have := pq_lt x ha.1 hb.2
    rw [if_pos x, if_pos (by omega)]
  · have := pq_gt x hb.1 ha.2
    rw [if_neg (by omega), if_neg (by omega)]
theorem Rrw_lay {I : IM} {V : Vw} {k f v : Int} (hW : Rrw I 201 0 V) (h0 : 0 ≤ k) (h1 : k < 12) (hf : f = 2 ∨ f = 3 ∨ f = 4) : Rrw (up I 201 (8 + 5 * k + f) v) 201 0 V := by
  obtain ⟨w0, w1, w2, w3, w4, w5, _, _, _, w9⟩ := hW
  refine ⟨?_, ?_, fun i a b => ?_, fun h => ?_, fun j a b => ?_, fun j a b => ?_, trivial, trivial, trivial, fun s a b f' hf' => ?_⟩
  · rw [up_k (by omega)]; exact w0
  · rw [up_k (by omega)]; exact w1
  · rw [up_k (by omega)]; exact w2 i a b
  · rw [up_k (by omega)]; exact w3 h
  · rw [up_k (by omega)]; exact w4 j a b
  · rw [up_k (by omega)]; exact w5 j a b
  · rw [up_k (by omega)]; exact w9 s a b f' hf'
section Lev79
variable {e : Nat} {I J : IM} {Q : Post} {V : Vw} {H : Hw} {b : Int} {c : Int → Int}
theorem sp_X11_nextHeight (hG : Good V) (hW : Rrw I 201 0 V) (hE : Ee I V) (hGH : GoodH (vm V) H) (hH : Rhr I 201 0 (vm V) H) {C : Int} (hc : ∀ k : Int, 0 ≤ k → k < vm V → I 214 k = c k) (hC : CB H c C) (hC1 : C ≤ 1900000000)
    (hQ : Q (.inl (some (.int (i32 (nxk V H c 144))))) (ME e I J)) : SX11_nextHeight [.ref 200] (ME e I J) Q := by
  refine x_in (Nat.le_of_ble_eq_true rfl) ?_
  dsimp only [bX11_nextHeight, bX11_nextHeight_0]
  have m := hG.1
  have ok := lvs_ok hG hC
  have flz : ∀ K K' : Nat, K ≤ K' → K' ≤ 144 → (∀ j : Nat, K ≤ j → j < K' → vm V ≤ j / 12 ∨ vm V ≤ j % 12) → nxk V H c K' = nxk V H c K := fun K K' h h2 hn => by
    have : lvs V H c K' = lvs V H c K := lvs_flat h fun j h1 h3 => by
      cases hx : lvc V H j
      · rfl
      · have := lvc_rg hG (by omega) (by omega) hx
        have := hn j h1 h3
        omega
    unfold nxk
    rw [this]
  refine x_for (vm V) (fun i av μ => av = [.ref 200, .int (i32 (nxk V H c (12 * i))), .int (i32 i)] ∧ μ = ME e I J) ?_ ?_ (Nat.zero_le _) ⟨by simp [Int.cast_ofNat_Int, Int.natCast_add, Int.toNat_natCast, i32_add, i32_sub, i32_mul, i32_neg, i32_lit, i64_add, i64_sub, i64_mul, i64_neg, i64_lit, i64_int, nxk, lvs], rfl⟩
  · rintro b av μ hb ⟨rfl, rfl⟩ hJ
    dsimp only [bX11_nextHeight, bX11_nextHeight_1]
    ((try rw [show (0 : Int32) = i32 (0) from rfl]); (try simp only [i32_add, i32_sub, i32_mul, i32_neg]))
    refine x_ob rfl (x_cI (sp_X11_marks hW (x_le (by omega) (by omega) (fun h => by omega) (fun _ => ?_))))
    refine x_for (vm V) (fun a av μ => av = [.ref 200, .int (i32 (nxk V H c (12 * b + a))), .int (i32 b), .int (i32 a)] ∧ μ = ME e I J) ?_ ?_ (Nat.zero_le _) ⟨by simp, rfl⟩
    · rintro a av μ ha ⟨rfl, rfl⟩ hJ2
      dsimp only [bX11_nextHeight, bX11_nextHeight_2]
      ((try rw [show (-1 : Int32) = i32 (-1) from rfl]); (try rw [show (0 : Int32) = i32 (0) from rfl]); (try rw [show (1 : Int32) = i32 (1) from rfl]); (try rw [show (12 : Int32) = i32 (12) from rfl]); (try simp only [i32_add, i32_sub, i32_mul, i32_neg]))
      have hs : lvs V H c (12 * b + a + 1) = if lvc V H (12 * b + a : Nat) = true ∧ ((lvs V H c (12 * b + a)).1 = -1 ∨ lco V c (12 * b + a : Nat) < (lvs V H c (12 * b + a)).2.2) then (((12 * b + a : Nat) : Int) / 12, ((12 * b + a : Nat) : Int) % 12, lco V c (12 * b + a : Nat)) else lvs V H c (12 * b + a) := rfl
      have d1 : ((12 * b + a : Nat) : Int) / 12 = b := by omega
      have d2 : ((12 * b + a : Nat) : Int) % 12 = a := by omega
      have hlc : lvc V H (12 * b + a : Nat) = true ↔ hh H b = 0 ∧ hh H a = 1 ∧ isE V (pq a b) = true := by rw [lvc_iff, d1, d2]
      have hco : lco V c (12 * b + a : Nat) = c a + dst V a b := by unfold lco; rw [d1, d2]
      rw [d1, d2, hco] at hs
      have stay : ¬ (lvc V H (12 * b + a : Nat) = true ∧ ((lvs V H c (12 * b + a)).1 = -1 ∨ c a + dst V a b < (lvs V H c (12 * b + a)).2.2)) → fx bX11_nextHeight 2 [.ref 200, .int (i32 (nxk V H c (12 * b + a))), .int (i32 b), .int (i32 ((a : Int) + 1))] (ME e I J) Q := by
        intro h
        rw [if_neg h] at hs
        refine hJ2 _ _ ⟨?_, rfl⟩
        have : nxk V H c (12 * b + (a + 1)) = nxk V H c (12 * b + a) := by unfold nxk; rw [show 12 * b + (a + 1) = 12 * b + a + 1 by omega, hs]
        rw [this]
        simp only [Int.cast_ofNat_Int, Int.natCast_add, Int.toNat_natCast, i32_add, i32_sub, i32_mul, i32_neg, i32_lit, i64_add, i64_sub, i64_mul, i64_neg, i64_lit, i64_int]
      have move : (lvc V H (12 * b + a : Nat) = true ∧ ((lvs V H c (12 * b + a)).1 = -1 ∨ c a + dst V a b < (lvs V H c (12 * b + a)).2.2)) → fx bX11_nextHeight 2 [.ref 200, .int (i32 (12 * (b : Int) + a)), .int (i32 b), .int (i32 ((a : Int) + 1))] (ME e I J) Q := by
        intro h
        rw [if_pos h] at hs
        refine hJ2 _ _ ⟨?_, rfl⟩
        have : nxk V H c (12 * b + (a + 1)) = 12 * (b : Int) + a := by
          unfold nxk
          rw [show 12 * b + (a + 1) = 12 * b + a + 1 by omega, hs]
          dsimp only
          rw [if_neg (by omega)]
        rw [this]
        simp only [Int.cast_ofNat_Int, Int.natCast_add, Int.toNat_natCast, i32_add, i32_sub, i32_mul, i32_neg, i32_lit, i64_add, i64_sub, i64_mul, i64_neg, i64_lit, i64_int]
      have gb := (hGH b (by omega) (by omega)).2.1
      have ga := (hGH a (by omega) (by omega)).2.1
      have o := ok (12 * b + a) (by omega)
      have oc := lvs_cost V H c (12 * b + a)
      have fa := hc a (by omega) (by omega)
      refine x_ob rfl (x_cI (sp_X11_marks hW (x_le (by omega) (by omega) (fun h => by omega) (fun _ => ?_))))
      refine x_ob rfl (x_cI (sp_X11_hasHeight m hGH hH (by omega) (x_eq (by omega) (by omega) (fun hb0 => ?_) (fun hb1 => stay (fun q => hb1 (hlc.mp q.1).1)))))
      refine x_ob rfl (x_cI (sp_X11_hasHeight m hGH hH (by omega) (x_eq (by omega) (by omega) (fun ha0 => stay (fun q => by have := (hlc.mp q.1).2.1; omega)) (fun ha1 => ?_))))
      refine x_ob rfl (x_cI (sp_X11_isEdge hG hE (by omega) (by omega) ?_))
      by_cases he : (a : Int) ≠ b ∧ isE V (pq a b) = true
      · rw [if_pos he]
        have hl := hlc.mpr ⟨hb0, by omega, he.2⟩
        refine x_eq (by omega) (by omega) (fun h => by omega) (fun _ => ?_)
        unfold nxk at stay ⊢
        generalize lvs V H c (12 * b + a) = Lw at *
        by_cases hw : Lw.1 = -1
        · rw [if_pos hw]
          refine x_eq (by omega) (by omega) (fun _ => x_lI ?_) (fun h => absurd rfl h)
          exact move ⟨hl, Or.inl hw⟩
        · rw [if_neg hw] at stay ⊢
          have o2 := o.resolve_left (fun q => hw (by rw [q]))
          have oc2 := oc.resolve_left hw
          have q1 : (12 * Lw.1 + Lw.2.1) / 12 = Lw.1 := by omega
          have q2 : 12 * Lw.1 + Lw.2.1 - Lw.1 * 12 = Lw.2.1 := by omega
          have cl := hC Lw.2.1 (by omega) (by omega) o2.2.2.2.2.2.2.1
          have fl := hc Lw.2.1 o2.2.2.1 o2.2.2.2.1
          have ca := hC a (by omega) (by omega) (by omega)
          have dd := gd_dst hG (a := (a : Int)) (b := b) (by omega) (by omega)
          have dl := gd_dst hG (a := Lw.2.1) (b := Lw.1) (by omega) (by omega)
          refine x_eq (by omega) (by omega) (fun h => by omega) (fun _ => ?_)
          rw [i32_div (by omega) (by omega) (by omega) (by omega), Int.tdiv_eq_ediv_of_nonneg (by omega), q1, i32_mul, i32_sub, q2]
          refine x_gR rfl rfl (x_aI rfl (by omega) (by omega) (by omega) ?_)
          rw [fa]
          refine x_ob rfl (x_cI (sp_X11_distance hG hW (by omega) (by omega) ?_))
          refine x_gR rfl rfl (x_nz (by omega) (by omega) (by omega) (x_aI rfl (by omega) (by omega) (by omega) ?_))
          rw [fl]
          refine x_nz (by omega) (by omega) (by omega) (x_nz (by omega) (by omega) (by omega) ?_)
          refine x_ob rfl (x_cI (sp_X11_distance hG hW (by omega) (by omega) ?_))
          dsimp only
          rw [i32_add, i32_add]
          refine x_le (by omega) (by omega) (fun h => ?_) (fun h => x_lI ?_)
          · exact stay (fun q => by omega)
          · exact move ⟨hl, Or.inr (by omega)⟩
      · rw [if_neg he]
        refine x_eq (by omega) (by omega) (fun _ => stay (fun q => ?_)) (fun h => by omega)
        have q2 := hlc.mp q.1
        exact he ⟨fun e => by rw [e] at q2; omega, q2.2.2⟩
    · rintro av μ ⟨rfl, rfl⟩
      dsimp only [bX11_nextHeight, bX11_nextHeight_2]
      ((try rw [show (1 : Int32) = i32 (1) from rfl]); (try simp only [i32_add, i32_sub, i32_mul, i32_neg]))
      refine x_ob rfl (x_cI (sp_X11_marks hW (x_le (by omega) (by omega) (fun _ => ?_) (fun h => by omega))))
      exact hJ _ _ ⟨by rw [flz (12 * b + vm V) (12 * (b + 1)) (by omega) (by omega) (fun j h1 h2 => by omega)]; simp only [Int.cast_ofNat_Int, Int.natCast_add, Int.toNat_natCast, i32_add, i32_sub, i32_mul, i32_neg, i32_lit, i64_add, i64_sub, i64_mul, i64_neg, i64_lit, i64_int], rfl⟩
  · rintro av μ ⟨rfl, rfl⟩
    dsimp only [bX11_nextHeight, bX11_nextHeight_1]
    rw [flz (12 * vm V) 144 (by omega) (by omega) (fun j h1 h2 => by omega)] at hQ
    exact x_ob rfl (x_cI (sp_X11_marks hW (x_le (by omega) (by omega) (fun _ => x_rI hQ) (fun h => by omega))))
/-- a mark that gets a height, in the reference's row -/
theorem Rhr_put {m : Nat} {h : Int} (hH : Rhr I 201 0 m H) : Rhr (up (up I 201 (8 + 5 * b + 3) 1) 201 (8 + 5 * b + 4) h) 201 0 m (putH H b h) := by
  intro k h0 h1
  have t := hH k h0 h1
  rw [putH_hb, putH_hh, putH_hv]
  refine ⟨?_, ?_, ?_⟩
  · rw [up_k (by omega), up_k (by omega)]; exact t.1
  · rw [up_k (by omega)]
    by_cases e : k = b
    · subst e; rw [if_pos rfl, show (0 : Int) + 8 + 5 * k + 3 = 8 + 5 * k + 3 by omega, up_self]
    · rw [if_neg e, up_k (by omega)]; exact t.2.1
  · by_cases e : k = b
    · subst e; rw [if_pos rfl, if_pos rfl, show (0 : Int) + 8 + 5 * k + 4 = 8 + 5 * k + 4 by omega, up_self]; exact fun _ => rfl
    · rw [if_neg e, if_neg e, up_k (by omega), up_k (by omega)]; exact t.2.2
end Lev79
