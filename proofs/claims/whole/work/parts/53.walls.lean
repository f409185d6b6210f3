/-! ===== the wall's own, the history ===== -/
/-- the first of n cells that holds v -/
def fnd (f : Int → Int) (v : Int) : Nat → Int
  | 0 => -1
  | k + 1 => if fnd f v k ≠ -1 then fnd f v k else if f k = v then k else -1
theorem fnd_rg (f : Int → Int) (v : Int) : ∀ n : Nat, -1 ≤ fnd f v n ∧ fnd f v n < n := by
  intro n
  induction n with
  | zero => simp [fnd]
  | succ n ih => simp only [fnd]; split <;> (try split) <;> omega
theorem fnd_keep {f : Int → Int} {v : Int} {K K' : Nat} (h : K ≤ K') (hf : fnd f v K ≠ -1) : fnd f v K' = fnd f v K := by
  obtain ⟨d, rfl⟩ : ∃ d, K' = K + d := ⟨K' - K, by omega⟩
  induction d with
  | zero => rfl
  | succ d ih =>
    rw [show K + (d + 1) = (K + d) + 1 by omega]
    simp only [fnd]
    rw [ih (by omega), if_pos hf]
/-- a mark more -/
def adM (V : Vw) (l : List Nat) (p : Int) : Vw := mkV (vm V + 1) (vn V) (vS V) (fun f k => if k = vm V then p else vK V f k) (vG V) (fun k => if k = vm V then l else vN V k)
section Wl65
variable {e : Nat} {I J : IM} {Q : Post} {V : Vw} {H : Hw} {s v a b c d t : Int}
theorem sp_X9_markWith {w r : Nat} (hw : kb w = (0, 9)) (hr : kb r = (1, 12)) {n : Nat} (hn : n ≤ 12) (h0 : I w 0 = n) {f : Int → Int} (hf : ∀ k : Int, 0 ≤ k → k < n → I r k = f k ∧ -2147483648 ≤ f k ∧ f k < 2147483648) (hv : -2147483648 ≤ v ∧ v < 2147483648)
    (hQ : Q (.inl (some (.int (i32 (fnd f v n))))) (ME e I J)) : SX9_markWith [.ref w, .ref r, .int (i32 v)] (ME e I J) Q := by
  refine x_in (Nat.le_of_ble_eq_true rfl) ?_
  dsimp only [bX9_markWith, bX9_markWith_0]
  refine x_for n (fun i av μ => av = [.ref w, .ref r, .int (i32 v), .int (i32 i)] ∧ μ = ME e I J ∧ fnd f v i = -1) ?_ ?_ (Nat.zero_le _) ⟨by simp [Int.cast_ofNat_Int, Int.natCast_add, Int.toNat_natCast, i32_add, i32_sub, i32_mul, i32_neg, i32_lit, i64_add, i64_sub, i64_mul, i64_neg, i64_lit, i64_int], rfl, rfl⟩
  · rintro i av μ hi ⟨rfl, rfl, hm⟩ hJ
    dsimp only [bX9_markWith, bX9_markWith_1]
    refine x_gI hw ?_
    rw [show I w ((0 : Nat) : Int) = (n : Int) from h0]
    refine x_le (by omega) (by omega) (fun h => ?_) (fun h => ?_)
    · omega
    refine x_cI (sp_X10_cell hr (by omega) (by omega) (by omega) (by omega) ?_)
    have g := hf i (by omega) (by omega)
    rw [g.1]
    have hs : fnd f v (i + 1) = if f i = v then (i : Int) else -1 := by simp only [fnd]; rw [if_neg (by omega)]
    refine x_eq (by omega) (by omega) (fun h => ?_) (fun h => ?_)
    · refine x_rI ?_
      rw [if_pos h] at hs
      rw [fnd_keep (K := i + 1) (by omega) (by omega), hs] at hQ
      exact hQ
    · rw [if_neg h] at hs
      refine hJ _ _ ⟨?_, rfl, hs⟩
      rw [show (1 : Int32) = i32 1 from rfl, i32_add]
      simp only [Int.cast_ofNat_Int, Int.natCast_add, Int.toNat_natCast, i32_add, i32_sub, i32_mul, i32_neg, i32_lit, i64_add, i64_sub, i64_mul, i64_neg, i64_lit, i64_int]
  · rintro av μ ⟨rfl, rfl, hm⟩
    dsimp only [bX9_markWith, bX9_markWith_1]
    refine x_gI hw ?_
    rw [show I w ((0 : Nat) : Int) = (n : Int) from h0]
    rw [hm] at hQ
    refine x_le (by omega) (by omega) (fun h => x_rI hQ) (fun h => ?_)
    omega
theorem enc_bd (l : List Nat) (h : okName l) : 0 ≤ enc 32 l ∧ enc 32 l < 2147483648 := by
  obtain ⟨h1, h2, h3⟩ := h
  match l, h1, h2, h3 with
  | [a], _, _, h => have := h a (by simp); simp [enc]; omega
  | [a, b], _, _, h => have := h a (by simp); have := h b (by simp); simp [enc]; omega
  | [a, b, c], _, _, h => have := h a (by simp); have := h b (by simp); have := h c (by simp); simp [enc]; omega
  | [a, b, c, d], _, _, h => have := h a (by simp); have := h b (by simp); have := h c (by simp); have := h d (by simp); simp [enc]; omega
  | [a, b, c, d, x], _, _, h => have := h a (by simp); have := h b (by simp); have := h c (by simp); have := h d (by simp); have := h x (by simp); simp [enc]; omega
  | [a, b, c, d, x, y], _, _, h => have := h a (by simp); have := h b (by simp); have := h c (by simp); have := h d (by simp); have := h x (by simp); have := h y (by simp); simp [enc]; omega
  | _ :: _ :: _ :: _ :: _ :: _ :: _ :: _, _, h, _ => simp at h
def nmF (V : Vw) : Int → Int := fun k => enc 32 (vN V k)
/-- the places of a wall -/
def wlP (e w : Nat) : Prop := kb w = (0, 9) ∧ kb (w + 1) = (1, 12) ∧ kb (w + 2) = (1, 12) ∧ R0 e w 1 = some (w + 1) ∧ R0 e w 2 = some (w + 2)
theorem sp_X9_named {w : Nat} (hw : wlP e w) (hm : vm V ≤ 12) (hN : ∀ k : Int, 0 ≤ k → k < vm V → okName (vN V k)) (hW : Rwl I w V) (hv : -2147483648 ≤ v ∧ v < 2147483648)
    (hQ : Q (.inl (some (.int (i32 (fnd (nmF V) v (vm V)))))) (ME e I J)) : SX9_named [.ref w, .int (i32 v)] (ME e I J) Q := by
  refine x_in (Nat.le_of_ble_eq_true rfl) ?_
  dsimp only [bX9_named, bX9_named_0]
  refine x_gR hw.1 hw.2.2.2.1 (x_ob hw.1 (x_cI (sp_X9_markWith hw.1 hw.2.1 hm hW.1 (f := nmF V) (fun k a b => ?_) hv (x_rI hQ))))
  have := enc_bd _ (hN k a b)
  exact ⟨hW.2.1 k a b, by unfold nmF; omega, by unfold nmF; omega⟩
theorem sp_X9_placedAt {w : Nat} (hw : wlP e w) (hm : vm V ≤ 12) (hN : ∀ k : Int, 0 ≤ k → k < vm V → 0 ≤ vK V 0 k ∧ vK V 0 k ≤ 99999) (hW : Rwl I w V) (hv : -2147483648 ≤ v ∧ v < 2147483648)
    (hQ : Q (.inl (some (.int (i32 (fnd (vK V 0) v (vm V)))))) (ME e I J)) : SX9_placedAt [.ref w, .int (i32 v)] (ME e I J) Q := by
  refine x_in (Nat.le_of_ble_eq_true rfl) ?_
  dsimp only [bX9_placedAt, bX9_placedAt_0]
  refine x_gR hw.1 hw.2.2.2.2 (x_ob hw.1 (x_cI (sp_X9_markWith hw.1 hw.2.2.1 hm hW.1 (f := vK V 0) (fun k a b => ?_) hv (x_rI hQ))))
  have := hN k a b
  exact ⟨hW.2.2 k a b, by omega, by omega⟩
theorem sp_X9_copyFrom {w w2 : Nat} (hw : wlP e w) (hw2 : wlP e w2) (hne : w + 3 ≤ w2 ∨ w2 + 3 ≤ w)
    (hQ : ∀ I' : IM, (∀ p, p < w ∨ w + 2 < p → I' p = I p) → (∀ V, vm V ≤ 12 → Rwl I w2 V → Rwl I' w V) → Q (.inl none) (ME e I' J)) : SX9_copyFrom [.ref w, .ref w2] (ME e I J) Q := by
  refine x_in (Nat.le_of_ble_eq_true rfl) ?_
  dsimp only [bX9_copyFrom, bX9_copyFrom_0]
  refine x_gI hw2.1 (x_pI hw.1 ?_)
  rw [show ((0 : Nat) : Int) = 0 from rfl]
  refine x_gR hw.1 hw.2.2.2.1 (x_gR hw2.1 hw2.2.2.2.1 (x_cV (cpR (n2 := 12) hw.2.1 hw2.2.1 (by omega) (by omega) fun I2 f2 r2 => ?_)))
  refine x_gR hw.1 hw.2.2.2.2 (x_gR hw2.1 hw2.2.2.2.2 (x_cV (cpR (n2 := 12) hw.2.2.1 hw2.2.2.1 (by omega) (by omega) fun I3 f3 r3 => ?_)))
  refine x_rV (hQ I3 (fun p h => by rw [f3 p (by omega), f2 p (by omega), up_qf (by omega)]) fun V hm hR => ⟨?_, fun k a b => ?_, fun k a b => ?_⟩)
  · rw [f3 w (by omega), f2 w (by omega), up_self]; exact hR.1
  · rw [f3 (w + 1) (by omega), r2 k a (by omega), up_q (by omega)]; exact hR.2.1 k a b
  · rw [r3 k a (by omega), f2 (w2 + 2) (by omega), up_q (by omega)]; exact hR.2.2 k a b
theorem sp_X9_add {w : Nat} (hw : wlP e w) (hm : vm V < 12) (hR : Rwl I w V) {l : List Nat} (hl : v = enc 32 l)
    (hQ : ∀ I' : IM, (∀ p, p < w ∨ w + 2 < p → I' p = I p) → Rwl I' w (adM V l a) → Q (.inl (some (.int (i32 (vm V))))) (ME e I' J)) : SX9_add [.ref w, .int (i32 v), .int (i32 a)] (ME e I J) Q := by
  refine x_in (Nat.le_of_ble_eq_true rfl) ?_
  dsimp only [bX9_add, bX9_add_0]
  have h0 : I w 0 = vm V := hR.1
  refine x_gI hw.1 ?_
  rw [show I w ((0 : Nat) : Int) = (vm V : Int) from h0]
  refine x_gR hw.1 hw.2.2.2.1 (x_cV (sp_X10_put (n := 12) hw.2.1 (by omega) (by omega) (by omega) (by omega) ?_))
  refine x_gR hw.1 hw.2.2.2.2 (x_cV (sp_X10_put (n := 12) hw.2.2.1 (by omega) (by omega) (by omega) (by omega) ?_))
  refine x_gI hw.1 ?_
  rw [show up (up I (w + 1) (vm V) v) (w + 2) (vm V) a w ((0 : Nat) : Int) = (vm V : Int) by rw [up_q (by omega), up_q (by omega)]; exact h0]
  rw [show (1 : Int32) = i32 1 from rfl, i32_add]
  refine x_pI hw.1 (x_rI ?_)
  rw [show ((0 : Nat) : Int) = 0 from rfl]
  refine hQ _ (fun p h => by rw [up_qf (by omega), up_qf (by omega), up_qf (by omega)]) ⟨?_, fun k h1 h2 => ?_, fun k h1 h2 => ?_⟩
  · rw [up_self]; show _ = ((vm V + 1 : Nat) : Int); omega
  · rw [up_q (by omega), up_q (by omega), up_at]
    have h2 : k < ((vm V + 1 : Nat) : Int) := h2
    show _ = enc 32 (if k = vm V then l else vN V k)
    split
    · exact hl
    · exact hR.2.1 k h1 (by omega)
  · rw [up_q (by omega), up_at, up_q (by omega)]
    have h2 : k < ((vm V + 1 : Nat) : Int) := h2
    show _ = if k = vm V then a else vK V 0 k
    split
    · rfl
    · exact hR.2.2 k h1 (by omega)
/-! the history: a ring of ten States -/
def HI (I : IM) (hd n : Nat) (L : Nat → Vw × Hw) : Prop :=
  I 41 1 = n ∧ I 41 2 = hd ∧ n ≤ 10 ∧ hd < 10 ∧ ∀ j : Nat, j < n → vn (L j).1 ≤ 40 ∧ Good (L j).1 ∧ Rst I (43 + 11 * ((hd + 10 - j) % 10)) (L j).1 ∧ Rht I (43 + 11 * ((hd + 10 - j) % 10)) (L j).2
theorem rg_st {x : Nat} (h : x < 10) : 43 + 11 * x ∈ stLs := by
  simp only [stLs, List.mem_cons, List.not_mem_nil, or_false]
  omega
theorem sp_X3_stateAt {x : Nat} (h : x < 10) (hQ : Q (.inl (some (.ref (43 + 11 * x)))) (ME e I J)) : SX3_stateAt [.ref 41, .int (i32 x)] (ME e I J) Q := by
  refine x_in (Nat.le_of_ble_eq_true rfl) ?_
  dsimp only [bX3_stateAt, bX3_stateAt_0]
  rw [show (0 : Int32) = i32 0 from rfl]
  refine x_lt (by omega) (by omega) (fun h => ?_) (fun _ => ?_)
  · omega
  refine x_gR rfl rfl (x_aL (n := 10) (t := 5) (q := 42) rfl (Or.inr rfl) ?_)
  refine x_le (by omega) (by omega) (fun h => ?_) (fun _ => ?_)
  · omega
  refine x_gR rfl rfl (x_aR (q := 42) (n := 10) (r := 43 + 11 * x) rfl (by omega) (by omega) (by omega) ?_ (x_rO hQ))
  rw [Int.toNat_natCast]
  match x, h with
  | 0, _ => rfl
  | 1, _ => rfl
  | 2, _ => rfl
  | 3, _ => rfl
  | 4, _ => rfl
  | 5, _ => rfl
  | 6, _ => rfl
  | 7, _ => rfl
  | 8, _ => rfl
  | 9, _ => rfl
def pushL (x : Vw × Hw) (L : Nat → Vw × Hw) : Nat → Vw × Hw
  | 0 => x
  | j + 1 => L j
theorem HI_push {hd n : Nat} {L : Nat → Vw × Hw} {I2 : IM} (h : HI I hd n L) (hG : Good V) (hR : Rst I2 (43 + 11 * ((hd + 1) % 10)) V) (hH : Rht I2 (43 + 11 * ((hd + 1) % 10)) H)
    (hf : ∀ p, p < 43 + 11 * ((hd + 1) % 10) ∨ 43 + 11 * ((hd + 1) % 10) + 10 < p → p ≠ 41 → I2 p = I p) (h1 : I2 41 1 = ((min (n + 1) 10 : Nat) : Int)) (h2 : I2 41 2 = (((hd + 1) % 10 : Nat) : Int)) : HI I2 ((hd + 1) % 10) (min (n + 1) 10) (pushL (V, H) L) := by
  obtain ⟨a, b, c, d, x⟩ := h
  refine ⟨h1, h2, by omega, by omega, fun j hj => ?_⟩
  cases j with
  | zero =>
    have hn := hG.2.1
    rw [show ((hd + 1) % 10 + 10 - 0) % 10 = (hd + 1) % 10 by omega]
    exact ⟨hn, hG, hR, hH⟩
  | succ j =>
    have y := x j (by omega)
    rw [show ((hd + 1) % 10 + 10 - (j + 1)) % 10 = (hd + 10 - j) % 10 by omega]
    have z : ∀ p, 43 + 11 * ((hd + 10 - j) % 10) ≤ p → p ≤ 43 + 11 * ((hd + 10 - j) % 10) + 10 → I2 p = I p := fun p h1 h2 => hf p (by omega) (by omega)
    exact ⟨y.1, y.2.1, y.2.2.1.keep fun d hd => z _ (by omega) (by omega), y.2.2.2.keep fun d hd => z _ (by omega) (by omega)⟩
theorem sp_X3_keep {q : Nat} (hq : q ∈ stLs) (hq3 : q + 11 ≤ 41 ∨ 153 ≤ q) {hd n : Nat} {L : Nat → Vw × Hw} (hI : HI I hd n L) (hG : Good V) (hR : Rst I q V) (hH : Rht I q H)
    (hQ : ∀ I' : IM, (∀ p, p < 41 ∨ 153 ≤ p → I' p = I p) → HI I' ((hd + 1) % 10) (min (n + 1) 10) (pushL (V, H) L) → Q (.inl none) (ME e I' J)) : SX3_keep [.ref 41, .ref q] (ME e I J) Q := by
  refine x_in (Nat.le_of_ble_eq_true rfl) ?_
  dsimp only [bX3_keep, bX3_keep_0]
  obtain ⟨c1, c2, c3, c4, c5⟩ := id hI
  have hz : I q 1 = 0 ∨ I q 1 = 1 := by rw [R_told hR]; exact hG.2.2.2.2.2.2.1
  have rg := st_rg hq
  have lit1 : (1 : Int32) = i32 1 := rfl
  have lit10 : (10 : Int32) = i32 10 := rfl
  have lit0 : (0 : Int32) = i32 0 := rfl
  -- what follows the copy
  have key : ∀ I1 : IM, (∀ p, p ≠ 41 → I1 p = I p) → I1 41 1 = n → I1 41 2 = (((hd + 1) % 10 : Nat) : Int) → ∀ I2 : IM, (∀ p, p < 43 + 11 * ((hd + 1) % 10) ∨ 43 + 11 * ((hd + 1) % 10) + 10 < p → I2 p = I1 p) → CpS I2 I1 (43 + 11 * ((hd + 1) % 10)) q →
      (10 ≤ n → Q (.inl none) (ME e I2 J)) ∧ (n < 10 → Q (.inl none) (ME e (up I2 41 1 ((n : Int) + 1)) J)) := by
    intro I1 f1 a1 a2 I2 f2 cp
    have hR1 : Rst I1 q V := hR.keep fun d hd => f1 _ (by omega)
    have hH1 : Rht I1 q H := hH.keep fun d hd => f1 _ (by omega)
    have b1 := cp.Rst hR1 hG.2.1
    have b2 := cp.Rht hH1
    refine ⟨fun h => ?_, fun h => ?_⟩
    · refine hQ I2 (fun p hp => by rw [f2 p (by omega), f1 p (by omega)]) (HI_push hI hG b1 b2 (fun p h1 h2 => by rw [f2 p h1, f1 p h2]) ?_ ?_)
      · rw [f2 41 (by omega), a1]; omega
      · rw [f2 41 (by omega), a2]
    · refine hQ _ (fun p hp => by rw [up_qf (by omega), f2 p (by omega), f1 p (by omega)]) (HI_push hI hG (b1.up (by omega)) (b2.up (by omega)) (fun p h1 h2 => by rw [up_qf h2, f2 p h1, f1 p h2]) ?_ ?_)
      · rw [up_self]; omega
      · rw [up_k (by omega), f2 41 (by omega), a2]
  have tail : ∀ I1 : IM, (∀ p, p ≠ 41 → I1 p = I p) → I1 41 1 = n → I1 41 2 = (((hd + 1) % 10 : Nat) : Int) → 
      (ob 6 (43 + 11 * ((hd + 1) % 10)) (cV SX6_copyFrom [.ref (43 + 11 * ((hd + 1) % 10)), .ref q] <|
        gI 3 1 41 fun v4 => br ((10 : Int32) ≤ v4) rV (gI 3 1 41 fun v5 => pI 3 1 41 (v5 + 1) <| rV))) (ME e I1 J) Q := by
    intro I1 f1 a1 a2
    have hh10 : (hd + 1) % 10 < 10 := by omega
    refine x_obs (rg_st hh10) (x_cV (sp_X6_copyFrom (rg_st hh10) hq (by omega) (by rw [f1 q (by omega)]; exact hz) fun I2 f2 cp => ?_))
    obtain ⟨k1, k2⟩ := key I1 f1 a1 a2 I2 f2 cp
    have a3 : I2 41 1 = n := by rw [f2 41 (by omega)]; exact a1
    refine x_gI rfl ?_
    rw [show I2 41 ((1 : Nat) : Int) = (n : Int) from a3, lit10]
    refine x_le (by omega) (by omega) (fun h => x_rV (k1 (by omega))) (fun h => ?_)
    refine x_gI rfl ?_
    rw [show I2 41 ((1 : Nat) : Int) = (n : Int) from a3, lit1, i32_add]
    exact x_pI rfl (x_rV (k2 (by omega)))
  refine x_gI rfl ?_
  rw [show I 41 ((2 : Nat) : Int) = (hd : Int) from c2, lit1, i32_add, lit10, lit0]
  refine x_le (by omega) (by omega) (fun h => ?_) (fun h => ?_)
  · refine x_pI rfl (x_gI rfl ?_)
    rw [show ((2 : Nat) : Int) = 2 from rfl, up_self, show (0 : Int) = ((((hd + 1) % 10 : Nat)) : Int) by omega]
    refine x_ob rfl (x_cO (sp_X3_stateAt (by omega) ?_))
    exact tail _ (fun p h => up_qf h) (by rw [up_k (by omega)]; exact c1) up_self
  · refine x_gI rfl ?_
    rw [show I 41 ((2 : Nat) : Int) = (hd : Int) from c2, i32_add]
    refine x_pI rfl (x_gI rfl ?_)
    rw [show ((2 : Nat) : Int) = 2 from rfl, up_self, show (hd : Int) + 1 = ((((hd + 1) % 10 : Nat)) : Int) by omega]
    refine x_ob rfl (x_cO (sp_X3_stateAt (by omega) ?_))
    exact tail _ (fun p h => up_qf h) (by rw [up_k (by omega)]; exact c1) up_self
theorem sp_X3_takeBack {q : Nat} (hq : q ∈ stLs) (hq3 : q + 11 ≤ 41 ∨ 153 ≤ q) {hd n : Nat} {L : Nat → Vw × Hw} (hI : HI I hd (n + 1) L)
    (hQ : ∀ I' : IM, (∀ p, p < q ∨ q + 10 < p → p ≠ 41 → I' p = I p) → HI I' ((hd + 9) % 10) n (fun j => L (j + 1)) → Rst I' q (L 0).1 → Rht I' q (L 0).2 → Q (.inl none) (ME e I' J)) : SX3_takeBack [.ref 41, .ref q] (ME e I J) Q := by
  refine x_in (Nat.le_of_ble_eq_true rfl) ?_
  dsimp only [bX3_takeBack, bX3_takeBack_0]
  obtain ⟨c1, c2, c3, c4, c5⟩ := id hI
  have rg := st_rg hq
  have lit1 : (1 : Int32) = i32 1 := rfl
  have lit9 : (9 : Int32) = i32 9 := rfl
  have lit0 : (0 : Int32) = i32 0 := rfl
  have l0 := c5 0 (by omega)
  rw [show (hd + 10 - 0) % 10 = hd by omega] at l0
  have hz : I (43 + 11 * hd) 1 = 0 ∨ I (43 + 11 * hd) 1 = 1 := by rw [R_told l0.2.2.1]; exact l0.2.1.2.2.2.2.2.2.1
  refine x_gI rfl ?_
  rw [show I 41 ((2 : Nat) : Int) = (hd : Int) from c2]
  refine x_ob rfl (x_cO (sp_X3_stateAt c4 ?_))
  refine x_obs hq (x_cV (sp_X6_copyFrom hq (rg_st c4) (by omega) hz fun I2 f2 cp => ?_))
  have b1 := cp.Rst l0.2.2.1 l0.1
  have b2 := cp.Rht l0.2.2.2
  have key : ∀ I3 : IM, (∀ p, p ≠ 41 → I3 p = I2 p) → I3 41 1 = n → I3 41 2 = (((hd + 9) % 10 : Nat) : Int) → Q (.inl none) (ME e I3 J) := by
    intro I3 f3 a1 a2
    refine hQ I3 (fun p h1 h2 => by rw [f3 p h2, f2 p h1]) ⟨a1, a2, by omega, by omega, fun j hj => ?_⟩ (b1.keep fun d hd => f3 _ (by omega)) (b2.keep fun d hd => f3 _ (by omega))
    have y := c5 (j + 1) (by omega)
    rw [show (hd + 10 - (j + 1)) % 10 = ((hd + 9) % 10 + 10 - j) % 10 by omega] at y
    have z : ∀ p, 43 + 11 * (((hd + 9) % 10 + 10 - j) % 10) ≤ p → p ≤ 43 + 11 * (((hd + 9) % 10 + 10 - j) % 10) + 10 → I3 p = I p := fun p h1 h2 => by rw [f3 p (by omega), f2 p (by omega)]
    exact ⟨y.1, y.2.1, y.2.2.1.keep fun d hd => z _ (by omega) (by omega), y.2.2.2.keep fun d hd => z _ (by omega) (by omega)⟩
  have d2 : I2 41 2 = (hd : Int) := by rw [f2 41 (by omega)]; exact c2
  have d1 : I2 41 1 = ((n : Int) + 1) := by rw [f2 41 (by omega), c1]; omega
  refine fx_in ?_
  dsimp only [bX3_takeBack, bX3_takeBack_1]
  refine x_gI rfl ?_
  rw [show I2 41 ((2 : Nat) : Int) = (hd : Int) from d2, lit0, lit9, lit1]
  refine x_le (by omega) (by omega) (fun h => ?_) (fun h => ?_)
  · refine x_pI rfl (x_gI rfl ?_)
    rw [show up I2 41 ((2 : Nat) : Int) 9 41 ((1 : Nat) : Int) = (n : Int) + 1 by rw [up_k (by decide)]; exact d1, i32_sub]
    refine x_pI rfl (x_rV ?_)
    refine key _ (fun p h => by rw [up_qf h, up_qf h]) ?_ ?_
    · rw [show ((1 : Nat) : Int) = 1 from rfl, up_self]; omega
    · rw [up_k (by decide), show ((2 : Nat) : Int) = 2 from rfl, up_self]; omega
  · refine x_gI rfl ?_
    rw [show I2 41 ((2 : Nat) : Int) = (hd : Int) from d2, i32_sub]
    refine x_pI rfl (x_gI rfl ?_)
    rw [show up I2 41 ((2 : Nat) : Int) ((hd : Int) - 1) 41 ((1 : Nat) : Int) = (n : Int) + 1 by rw [up_k (by decide)]; exact d1, i32_sub]
    refine x_pI rfl (x_rV ?_)
    refine key _ (fun p h => by rw [up_qf h, up_qf h]) ?_ ?_
    · rw [show ((1 : Nat) : Int) = 1 from rfl, up_self]; omega
    · rw [up_k (by decide), show ((2 : Nat) : Int) = 2 from rfl, up_self]; omega
end Wl65
