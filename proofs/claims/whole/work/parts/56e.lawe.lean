/-! ===== the class is asked: loops, heights ===== -/
noncomputable def lke (V : Vw) (l : Int) : Nat := @dite Nat (∃ k : Nat, k < 144 ∧ isL V k = true ∧ (lk V k : Int) = l) (Classical.propDecidable _) (fun h => h.choose) (fun _ => 0)
theorem lke_ok {V : Vw} {l : Int} (h0 : 0 ≤ l) (h1 : l < nL V) : lke V l < 144 ∧ isL V (lke V l) = true ∧ (lk V (lke V l) : Int) = l := by
  have h : ∃ k : Nat, k < 144 ∧ isL V k = true ∧ (lk V k : Int) = l := by
    obtain ⟨k, a, b, c⟩ := ln_next (V := V) (N := 144) (i := l.toNat) (by unfold nL at h1; omega)
    exact ⟨k, a, b, by omega⟩
  unfold lke
  rw [dif_pos h]
  exact h.choose_spec
noncomputable def lpA (V : Vw) (k : Int) : Nat → Int
  | 0 => k / 12
  | 1 => k % 12
  | 2 => (lD V k : Int) + 1
  | 3 => lW V k
  | 4 => lC V k
  | _ => if clo V (vS V 3) k = true then 1 else 0
noncomputable def an_loop (V : Vw) (l w : Int) : An := if 0 ≤ l ∧ l < nL V then (if 0 ≤ w ∧ w < 6 then .inl (lpA V (lke V l) w.toNat) else .inr 2) else .inr 1
noncomputable def an_lm (V : Vw) (l i : Int) : An := if 0 ≤ l ∧ l < nL V then .inl (if 0 ≤ i ∧ i < (lD V (lke V l) : Int) + 1 then lM V (lke V l) i.toNat else -1) else .inr 1
def an_ten (V : Vw) (H : Hw) (a : Int) : An := if 0 ≤ a ∧ a < vm V then .inl (if hh H a = 1 then ten V H a 144 else -10000000) else .inr 1
def tns (V : Vw) (H : Hw) : Nat → Int × Int
  | 0 => (-1, 0)
  | a + 1 => if hh H a = 1 ∧ (tns V H a).2 < ten V H a 144 then (a, ten V H a 144) else tns V H a
/-- the i-th neighbour -/
def nb (V : Vw) (a i : Int) : Nat → Int
  | 0 => -1
  | o + 1 => if nb V a i o ≠ -1 then nb V a i o else if adj V a o = true ∧ (ct (adj V a) o : Int) = i then o else -1
theorem nb_keep {V : Vw} {a i : Int} {K : Nat} (h : nb V a i K ≠ -1) : ∀ K' : Nat, K ≤ K' → nb V a i K' = nb V a i K := by
  intro K' hK
  obtain ⟨d, rfl⟩ : ∃ d, K' = K + d := ⟨K' - K, by omega⟩
  induction d with
  | zero => rfl
  | succ d ih =>
    rw [show K + (d + 1) = (K + d) + 1 by omega]
    simp only [nb]
    rw [ih (by omega), if_pos h]
def an_nb (V : Vw) (a i : Int) : An := if 0 ≤ a ∧ a < vm V then .inl (nb V a i (vm V)) else .inr 1
noncomputable def an_lo (V : Vw) (a : Int) : An := if 0 ≤ a ∧ a < vm V then .inl (lth V a 144) else .inr 1
noncomputable def brg (V : Vw) (K : Nat) : Nat := ct (fun k => isE V k && decide (lwc V k 144 = 0)) K
section Law88
variable {e : Nat} {I J : IM} {Q : Post} {V : Vw} {H : Hw} {a b v s w l : Int}
theorem cq_loop (h : Cn I V H) (hl : IR l) (hw : IR w) : Cq SX10_loop [.ref 0, .int (i32 l), .int (i32 w)] e I J (an_loop V l w) := by
  intro Q hQ
  obtain ⟨hG, hGH, hB, hR, hH, hW, hd⟩ := h
  have m := hG.1
  refine x_in (Nat.le_of_ble_eq_true rfl) ?_
  dsimp only [bX10_loop, bX10_loop_0]
  ((try rw [show (0 : Int32) = i32 (0) from rfl]); (try rw [show (1 : Int32) = i32 (1) from rfl]); (try rw [show (3 : Int32) = i32 (3) from rfl]); (try simp only [i32_add, i32_sub, i32_mul, i32_neg]))
  unfold an_loop at hQ
  refine x_gR rfl rfl (x_ob rfl (x_cV (sp_X10_survey st8 hG hR hW hd fun I1 f1 M1 G1 L1 => ?_)))
  have hq := hQ I1 8 f1.cf st8
  have R1 := f1.st (by omega) hR
  have lim := hG.2.2.2.2.2.1
  refine x_ob rfl (x_cV (sp_X10_needLoop hG L1.1 hl (fun h1 h2 => ?_) (fun h1 => by rw [if_neg (by omega)] at hq; exact hq)))
  rw [if_pos ⟨h1, h2⟩] at hq
  obtain ⟨k1, k2, k3⟩ := lke_ok h1 h2
  generalize lke V l = k at *
  have t := L1.2.2.1 k k1 k2
  have hE := (isL_E k2).1
  have D := lD_ok hG hE
  have k4 := lk_40 hG k1 k2
  rw [← k3]
  refine x_sw hw (by omega) (fun j hj haj => ?_) (fun h => ?_)
  · rw [if_pos (by omega)] at hq
    obtain rfl : w = (j : Int) := by omega
    rcases (show j = 0 ∨ j = 1 ∨ j = 2 ∨ j = 3 ∨ j = 4 ∨ j = 5 by omega) with rfl | rfl | rfl | rfl | rfl | rfl
    · refine x_gR rfl rfl (x_ob rfl (x_cI (sp_X4_markAt k4 t.1 (by omega) (by omega) ?_)))
      rw [if_pos (by omega), show (12 : Int) * (lk V k : Int) + 0 = 12 * (lk V k : Int) + ((0 : Nat) : Int) by omega, t.2.2.2 0 (by omega)]
      exact x_rI hq
    · refine x_gR rfl rfl (x_ob rfl (x_cI (sp_X4_markAt k4 t.1 (by omega) (by omega) ?_)))
      rw [if_pos (by omega), show (12 : Int) * (lk V k : Int) + 1 = 12 * (lk V k : Int) + ((1 : Nat) : Int) by omega, t.2.2.2 1 (by omega)]
      exact x_rI hq
    · refine x_gR rfl rfl (x_gR rfl rfl (x_cI (sp_X10_cell (n := 40) rfl (by omega) (by omega) (by omega) (by omega) ?_)))
      dsimp only
      rw [t.1]
      exact x_rI hq
    · refine x_gR rfl rfl (x_gR rfl rfl (x_cI (sp_X10_cell (n := 40) rfl (by omega) (by omega) (by omega) (by omega) ?_)))
      dsimp only
      rw [t.2.1]
      exact x_rI hq
    · refine x_gR rfl rfl (x_gR rfl rfl (x_cI (sp_X10_cell (n := 40) rfl (by omega) (by omega) (by omega) (by omega) ?_)))
      dsimp only
      rw [t.2.2.1]
      exact x_rI hq
    · refine x_gR rfl rfl (x_gR rfl rfl (x_obs st8 (x_cI (sp_X6_settingOf st8 st8 R1 (by omega) (by omega) ?_))))
      have lw := lW_bd hG hE
      refine x_ob rfl (x_cI (sp_X4_closes k4 t.2.2.1 t.2.1 (lC_bd hG hE) (by omega) (by omega) ?_))
      have hq : Q (rsI (.inl (if clo V (vS V 3) k = true then 1 else 0))) (ME 8 I1 J) := hq
      unfold clo at hq
      simp only [decide_eq_true_eq] at hq
      by_cases hc : 1000 * (lC V k * lC V k) ≤ lW V k * vS V 3 * vS V 3
      · rw [if_pos hc] at hq ⊢
        exact x_eq (by omega) (by omega) (fun h => by omega) (fun _ => x_rI hq)
      · rw [if_neg hc] at hq ⊢
        exact x_brr (by trivial) (x_rI hq)
  · rw [if_neg (by omega)] at hq
    exact x_thr hq
theorem cq_loopMark (h : Cn I V H) (hl : IR l) (hw : IR w) : Cq SX10_loopMark [.ref 0, .int (i32 l), .int (i32 w)] e I J (an_lm V l w) := by
  intro Q hQ
  obtain ⟨hG, hGH, hB, hR, hH, hW, hd⟩ := h
  have m := hG.1
  refine x_in (Nat.le_of_ble_eq_true rfl) ?_
  dsimp only [bX10_loopMark, bX10_loopMark_0]
  unfold an_lm at hQ
  refine x_gR rfl rfl (x_ob rfl (x_cV (sp_X10_survey st8 hG hR hW hd fun I1 f1 M1 G1 L1 => ?_)))
  have hq := hQ I1 8 f1.cf st8
  refine x_ob rfl (x_cV (sp_X10_needLoop hG L1.1 hl (fun h1 h2 => ?_) (fun h1 => by rw [if_neg (by omega)] at hq; exact hq)))
  rw [if_pos ⟨h1, h2⟩] at hq
  obtain ⟨k1, k2, k3⟩ := lke_ok h1 h2
  generalize lke V l = k at *
  have t := L1.2.2.1 k k1 k2
  have hE := (isL_E k2).1
  have D := lD_ok hG hE
  have k4 := lk_40 hG k1 k2
  rw [← k3]
  refine x_gR rfl rfl (x_ob rfl (x_cI (sp_X4_markAt k4 t.1 (by omega) hw ?_)))
  by_cases hc : 0 ≤ w ∧ w < (lD V k : Int) + 1
  · rw [if_pos hc] at hq ⊢
    rw [show (12 : Int) * (lk V k : Int) + w = 12 * (lk V k : Int) + ((w.toNat : Nat) : Int) by omega, t.2.2.2 w.toNat (by omega)]
    exact x_rI hq
  · rw [if_neg hc] at hq ⊢
    exact x_rI hq
theorem cq_worst (h : Cn I V H) : Cq SX10_worstLoop [.ref 0] e I J (.inl (lkI V (wst V 144))) := by
  intro Q hQ
  obtain ⟨hG, hGH, hB, hR, hH, hW, hd⟩ := h
  refine x_in (Nat.le_of_ble_eq_true rfl) ?_
  dsimp only [bX10_worstLoop, bX10_worstLoop_0]
  refine x_gR rfl rfl (x_ob rfl (x_cV (sp_X10_survey st8 hG hR hW hd fun I1 f1 M1 G1 L1 => ?_)))
  exact x_gR rfl rfl (x_ob rfl (x_cI (sp_X4_worst hG L1 (x_rI (hQ I1 8 f1.cf st8)))))
theorem cq_suspect (h : Cn I V H) : Cq SX10_suspect [.ref 0] e I J (.inl (sus V (vS V 3) 144).1) := by
  intro Q hQ
  obtain ⟨hG, hGH, hB, hR, hH, hW, hd⟩ := h
  have m := hG.1
  refine x_in (Nat.le_of_ble_eq_true rfl) ?_
  dsimp only [bX10_suspect, bX10_suspect_0]
  ((try rw [show (-1 : Int32) = i32 (-1) from rfl]); (try simp only [i32_add, i32_sub, i32_mul, i32_neg]))
  refine x_gR rfl rfl (x_ob rfl (x_cV (sp_X10_survey st8 hG hR hW hd fun I1 f1 M1 G1 L1 => ?_)))
  have hq := hQ I1 8 f1.cf st8
  have so := sus_ok V (vS V 3) 144 (by omega)
  refine x_gR rfl rfl (x_ob rfl (x_cI (sp_X4_suspectEdge hG M1 L1 ?_)))
  generalize (sus V (vS V 3) 144).1 = k at *
  dsimp only
  by_cases hk : k = -1
  · subst hk
    exact x_brr (by trivial) (x_rI hq)
  · have hE := so.2.2.2 (by omega)
    have rb := rkJ_bd hG (k := k) so.1 (fun _ => hE)
    have rj : rkJ V k = rkI V k := by unfold rkJ; rw [if_neg hk]
    have r := rkI_rg hG (k := k) (by omega) so.1.2 hE
    have a := M1.at (k := k) (by omega) so.1.2 hE
    have g := isE_ab hG (by omega) so.1.2 hE
    rw [rj]
    refine x_eq (by omega) (by omega) (fun h => by omega) (fun _ => ?_)
    refine x_gR rfl rfl (x_gR rfl rfl (x_cI (sp_X10_cell (n := 40) rfl (by omega) (by omega) (by omega) (by omega) ?_)))
    refine x_gR rfl rfl (x_gR rfl rfl (x_cI (sp_X10_cell (n := 40) rfl (by omega) (by omega) (by omega) (by omega) ?_)))
    dsimp only
    rw [a.1, a.2.1]
    refine x_cI (sp_X10_pairOf (by omega) (by omega) ?_)
    rw [if_pos g.1, show 12 * (k / 12) + k % 12 = k by omega]
    exact x_rI hq
theorem cq_outlier (h : Cn I V H) : Cq SX10_outlier [.ref 0] e I J (.inl (oul V (vn V)).1) := by
  intro Q hQ
  obtain ⟨hG, hGH, hB, hR, hH, hW, hd⟩ := h
  refine x_in (Nat.le_of_ble_eq_true rfl) ?_
  dsimp only [bX10_outlier, bX10_outlier_0]
  refine x_gR rfl rfl (x_gR rfl rfl (x_ob rfl (x_cV (sp_X0_measure st8 hG hR hW fun I1 f1 M1 => ?_))))
  exact x_gR rfl rfl (x_ob rfl (x_cI (sp_X0_outlyingSight st8 hG (f1.st st8 hR) M1 (x_rI (hQ I1 8 (f1.cf hd) st8)))))
theorem cq_misfit (h : Cn I V H) : CqJ SX10_misfit [.ref 0] e I J (.inl (misf V H)) := by
  intro Q hQ
  obtain ⟨hG, hGH, hB, hR, hH, hW, hd⟩ := h
  refine x_in (Nat.le_of_ble_eq_true rfl) ?_
  dsimp only [bX10_misfit, bX10_misfit_0]
  refine x_gR rfl rfl (x_gR rfl rfl (x_ob rfl (x_cV (sp_X0_measure st8 hG hR hW fun I1 f1 M1 => ?_))))
  have H1 : Rht I1 8 H := hH.keep fun d hd => f1 _ (by omega)
  exact x_gR rfl rfl (x_gR rfl rfl (x_ob rfl (x_cJ (sp_X2_misfitOf st8 st8 hG M1 hGH H1 (hB.mono (by omega)) (x_rJ (hQ I1 8 (f1.cf hd) st8))))))
theorem cq_tension (h : Cn I V H) (he : e ∈ stLs) (ha : IR a) : Cq SX10_tension [.ref 0, .int (i32 a)] e I J (an_ten V H a) := by
  intro Q hQ
  obtain ⟨hG, hGH, hB, hR, hH, hW, hd⟩ := h
  refine x_in (Nat.le_of_ble_eq_true rfl) ?_
  dsimp only [bX10_tension, bX10_tension_0]
  unfold an_ten at hQ
  refine x_ob rfl (x_cV (sp_X10_needMark hG.1 hW ha (fun h1 h2 => ?_) (fun h1 => ?_)))
  rotate_left
  · have hq := hQ I e (Cf.refl hd) he
    rw [if_neg (by omega)] at hq; exact hq
  rw [if_pos ⟨h1, h2⟩] at hQ
  refine x_gR rfl rfl (x_gR rfl rfl (x_ob rfl (x_cV (sp_X0_measure st8 hG hR hW fun I1 f1 M1 => ?_))))
  have H1 : Rht I1 8 H := hH.keep fun d hd => f1 _ (by omega)
  exact x_gR rfl rfl (x_gR rfl rfl (x_ob rfl (x_cI (sp_X2_tensionAt st8 st8 hG M1 hGH H1 (hB.mono (by omega)) ⟨h1, h2⟩ (x_rI (hQ I1 8 (f1.cf hd) st8))))))
theorem tns_bd (hG : Good V) (hGH : GoodH (vm V) H) (hB : HB (vm V) H 1000000000) : ∀ K : Nat, K ≤ vm V → (0 ≤ (tns V H K).2 ∧ (tns V H K).2 ≤ 2000051678) ∧ -1 ≤ (tns V H K).1 ∧ (tns V H K).1 < K := by
  intro K
  induction K with
  | zero => intro _; simp [tns]
  | succ K ih =>
    intro hK
    have := ih (by omega)
    simp only [tns]
    split
    · rename_i h
      have := ten_bd hG (M := 1000000000) (by omega) hB (b := (K : Int)) (by omega) h.1 144 (by omega)
      refine ⟨by dsimp only; omega, by dsimp only; omega, by dsimp only; omega⟩
    · omega
theorem cq_tensest (h : Cn I V H) : Cq SX10_tensest [.ref 0] e I J (.inl (tns V H (vm V)).1) := by
  intro Q hQ
  obtain ⟨hG, hGH, hB, hR, hH, hW, hd⟩ := h
  have m := hG.1
  refine x_in (Nat.le_of_ble_eq_true rfl) ?_
  dsimp only [bX10_tensest, bX10_tensest_0]
  ((try rw [show (-1 : Int32) = i32 (-1) from rfl]); (try rw [show (0 : Int32) = i32 (0) from rfl]); (try simp only [i32_add, i32_sub, i32_mul, i32_neg]))
  refine x_gR rfl rfl (x_gR rfl rfl (x_ob rfl (x_cV (sp_X0_measure st8 hG hR hW fun I1 f1 M1 => ?_))))
  have H1 : Rht I1 8 H := hH.keep fun d hd => f1 _ (by omega)
  have W1 := f1.wl hW
  have hq := hQ I1 8 (f1.cf hd) st8
  have hB1 : HB (vm V) H 1000000000 := hB.mono (by omega)
  dsimp only
  refine x_for (vm V) (fun i av μ => av = [.ref 0, .int (i32 (tns V H i).1), .int (i32 (tns V H i).2), .int (i32 i)] ∧ μ = ME 8 I1 J) ?_ ?_ (Nat.zero_le _) ⟨rfl, rfl⟩
  · rintro k av μ hk ⟨rfl, rfl⟩ hJ
    dsimp only [bX10_tensest, bX10_tensest_1]
    ((try rw [show (1 : Int32) = i32 (1) from rfl]); (try simp only [i32_add, i32_sub, i32_mul, i32_neg]))
    have tb := tns_bd hG hGH hB1 k (by omega)
    have hs : tns V H (k + 1) = if hh H k = 1 ∧ (tns V H k).2 < ten V H k 144 then ((k : Int), ten V H k 144) else tns V H k := rfl
    refine x_gR rfl rfl (x_gI rfl ?_)
    rw [show I1 5 ((0 : Nat) : Int) = ((vm V : Nat) : Int) from W1.1]
    refine x_le (by omega) (by omega) (fun h => by omega) (fun _ => ?_)
    refine x_gR rfl rfl (x_gR rfl rfl (x_ob rfl (x_cI (sp_X2_tensionAt st8 st8 hG M1 hGH H1 hB1 (by omega) ?_))))
    by_cases h1 : hh H k = 1
    · have tb2 := ten_bd hG (M := 1000000000) (by omega) hB1 (b := (k : Int)) (by omega) h1 144 (by omega)
      rw [if_pos h1]
      refine x_le (by omega) (by omega) (fun h => ?_) (fun h => ?_)
      · rw [if_neg (fun q => by omega)] at hs
        exact hJ _ _ ⟨by rw [hs]; simp only [Int.cast_ofNat_Int, Int.natCast_add, Int.toNat_natCast, i32_add, i32_sub, i32_mul, i32_neg, i32_lit, i64_add, i64_sub, i64_mul, i64_neg, i64_lit, i64_int], rfl⟩
      · rw [if_pos ⟨h1, h⟩] at hs
        exact hJ _ _ ⟨by rw [hs]; simp only [Int.cast_ofNat_Int, Int.natCast_add, Int.toNat_natCast, i32_add, i32_sub, i32_mul, i32_neg, i32_lit, i64_add, i64_sub, i64_mul, i64_neg, i64_lit, i64_int], rfl⟩
    · rw [if_neg h1]
      refine x_le (by omega) (by omega) (fun _ => ?_) (fun h => by omega)
      rw [if_neg (fun q => h1 q.1)] at hs
      exact hJ _ _ ⟨by rw [hs]; simp only [Int.cast_ofNat_Int, Int.natCast_add, Int.toNat_natCast, i32_add, i32_sub, i32_mul, i32_neg, i32_lit, i64_add, i64_sub, i64_mul, i64_neg, i64_lit, i64_int], rfl⟩
  · rintro av μ ⟨rfl, rfl⟩
    dsimp only [bX10_tensest, bX10_tensest_1]
    refine x_gR rfl rfl (x_gI rfl ?_)
    rw [show I1 5 ((0 : Nat) : Int) = ((vm V : Nat) : Int) from W1.1]
    exact x_le (by omega) (by omega) (fun _ => x_rI hq) (fun h => by omega)
theorem cq_neighbour (h : Cn I V H) (he : e ∈ stLs) (ha : IR a) (hb : IR b) : Cq SX10_neighbour [.ref 0, .int (i32 a), .int (i32 b)] e I J (an_nb V a b) := by
  intro Q hQ
  obtain ⟨hG, hGH, hB, hR, hH, hW, hd⟩ := h
  have m := hG.1
  refine x_in (Nat.le_of_ble_eq_true rfl) ?_
  dsimp only [bX10_neighbour, bX10_neighbour_0]
  ((try rw [show (0 : Int32) = i32 (0) from rfl]); (try simp only [i32_add, i32_sub, i32_mul, i32_neg]))
  unfold an_nb at hQ
  refine x_ob rfl (x_cV (sp_X10_needMark hG.1 hW ha (fun h1 h2 => ?_) (fun h1 => ?_)))
  rotate_left
  · have hq := hQ I e (Cf.refl hd) he
    rw [if_neg (by omega)] at hq; exact hq
  rw [if_pos ⟨h1, h2⟩] at hQ
  refine x_gR rfl rfl (x_gR rfl rfl (x_ob rfl (x_cV (sp_X0_measure st8 hG hR hW fun I1 f1 M1 => ?_))))
  have W1 := f1.wl hW
  have hq := hQ I1 8 (f1.cf hd) st8
  dsimp only
  refine x_for (vm V) (fun i av μ => av = [.ref 0, .int (i32 a), .int (i32 b), .int (i32 (ct (adj V a) i : Nat)), .int (i32 i)] ∧ μ = ME 8 I1 J ∧ nb V a b i = -1) ?_ ?_ (Nat.zero_le _) ⟨by simp [ct], rfl, rfl⟩
  · rintro k av μ hk ⟨rfl, rfl, hn⟩ hJ
    dsimp only [bX10_neighbour, bX10_neighbour_1]
    ((try rw [show (-1 : Int32) = i32 (-1) from rfl]); (try rw [show (1 : Int32) = i32 (1) from rfl]); (try simp only [i32_add, i32_sub, i32_mul, i32_neg]))
    have cl := ct_le (adj V a) k
    have cs : ct (adj V a) (k + 1) = ct (adj V a) k + (if adj V a k = true then 1 else 0) := rfl
    have hs : nb V a b (k + 1) = if nb V a b k ≠ -1 then nb V a b k else if adj V a k = true ∧ (ct (adj V a) k : Int) = b then (k : Int) else -1 := rfl
    rw [if_neg (by omega)] at hs
    refine x_gR rfl rfl (x_gI rfl ?_)
    rw [show I1 5 ((0 : Nat) : Int) = ((vm V : Nat) : Int) from W1.1]
    refine x_le (by omega) (by omega) (fun h => by omega) (fun _ => ?_)
    refine x_gR rfl rfl (x_ob rfl (x_cI (sp_X0_between (k := 0) (by omega) (by omega) ?_)))
    dsimp only
    rcases M1.bet hG ⟨h1, h2⟩ (b := (k : Int)) ⟨by omega, by omega⟩ with ⟨h5, h6⟩ | ⟨k', hk', hp, hE, hab, h6, h5, h7⟩
    · rw [h5]
      rw [h6] at hs cs
      exact x_brr (by trivial) (hJ _ _ ⟨by rw [cs, if_neg (by decide)]; simp only [Int.cast_ofNat_Int, Int.natCast_add, Int.toNat_natCast, i32_add, i32_sub, i32_mul, i32_neg, i32_lit, i64_add, i64_sub, i64_mul, i64_neg, i64_lit, i64_int, Nat.add_zero], rfl, by rw [hs, if_neg (fun q => absurd q.1 (by decide))]⟩)
    · rw [h5]
      rw [if_pos h6] at cs
      refine x_eq (by omega) (by omega) (fun h => by omega) (fun _ => ?_)
      refine x_eq (by omega) hb (fun h => ?_) (fun h => ?_)
      · rw [if_pos ⟨h6, h⟩] at hs
        rw [nb_keep (K := k + 1) (by rw [hs]; omega) (vm V) (by omega), hs] at hq
        exact x_rI hq
      · rw [if_neg (fun q => h q.2)] at hs
        exact hJ _ _ ⟨by rw [cs]; simp only [Int.cast_ofNat_Int, Int.natCast_add, Int.toNat_natCast, i32_add, i32_sub, i32_mul, i32_neg, i32_lit, i64_add, i64_sub, i64_mul, i64_neg, i64_lit, i64_int, Int.natCast_one], rfl, hs⟩
  · rintro av μ ⟨rfl, rfl, hn⟩
    dsimp only [bX10_neighbour, bX10_neighbour_1]
    ((try rw [show (-1 : Int32) = i32 (-1) from rfl]); (try simp only [i32_add, i32_sub, i32_mul, i32_neg]))
    refine x_gR rfl rfl (x_gI rfl ?_)
    rw [show I1 5 ((0 : Nat) : Int) = ((vm V : Nat) : Int) from W1.1]
    rw [hn] at hq
    exact x_le (by omega) (by omega) (fun _ => x_rI hq) (fun h => by omega)
theorem cq_loopsOf (h : Cn I V H) (he : e ∈ stLs) (ha : IR a) : Cq SX10_loopsOf [.ref 0, .int (i32 a)] e I J (an_lo V a) := by
  intro Q hQ
  obtain ⟨hG, hGH, hB, hR, hH, hW, hd⟩ := h
  have m := hG.1
  refine x_in (Nat.le_of_ble_eq_true rfl) ?_
  dsimp only [bX10_loopsOf, bX10_loopsOf_0]
  unfold an_lo at hQ
  refine x_ob rfl (x_cV (sp_X10_needMark hG.1 hW ha (fun h1 h2 => ?_) (fun h1 => ?_)))
  rotate_left
  · have hq := hQ I e (Cf.refl hd) he
    rw [if_neg (by omega)] at hq; exact hq
  rw [if_pos ⟨h1, h2⟩] at hQ
  refine x_gR rfl rfl (x_ob rfl (x_cV (sp_X10_survey st8 hG hR hW hd fun I1 f1 M1 G1 L1 => ?_)))
  exact x_gR rfl rfl (x_ob rfl (x_cI (sp_X4_loopsThrough hG L1 (by omega) (x_rI (hQ I1 8 f1.cf st8)))))
theorem brg_flat {K K' : Nat} (h : K ≤ K') (hn : ∀ j : Nat, K ≤ j → j < K' → isE V j = false) : brg V K' = brg V K :=
  ct_flat h fun j h1 h2 => by rw [hn j h1 h2]; rfl
theorem cq_bridges (h : Cn I V H) : Cq SX10_bridges [.ref 0] e I J (.inl (brg V 144 : Nat)) := by
  intro Q hQ
  obtain ⟨hG, hGH, hB, hR, hH, hW, hd⟩ := h
  have n40 := nE40 hG
  refine x_in (Nat.le_of_ble_eq_true rfl) ?_
  dsimp only [bX10_bridges, bX10_bridges_0]
  ((try rw [show (0 : Int32) = i32 (0) from rfl]); (try simp only [i32_add, i32_sub, i32_mul, i32_neg]))
  refine x_gR rfl rfl (x_ob rfl (x_cV (sp_X10_survey st8 hG hR hW hd fun I1 f1 M1 G1 L1 => ?_)))
  have hq := hQ I1 8 f1.cf st8
  dsimp only
  refine x_for (nE V) (fun i av μ => ∃ K : Nat, K ≤ 144 ∧ rk V K = i ∧ av = [.ref 0, .int (i32 (brg V K : Nat)), .int (i32 i)] ∧ μ = ME 8 I1 J) ?_ ?_ (Nat.zero_le _) ⟨0, by omega, rfl, by simp [brg, ct], rfl⟩
  · rintro i av μ hi ⟨K, hK, hKi, rfl, rfl⟩ hJ
    dsimp only [bX10_bridges, bX10_bridges_1]
    ((try rw [show (0 : Int32) = i32 (0) from rfl]); (try rw [show (1 : Int32) = i32 (1) from rfl]); (try simp only [i32_add, i32_sub, i32_mul, i32_neg]))
    obtain ⟨k, hk, hE, rfl⟩ := rk_next (show i < rk V 144 from hi)
    have hKk : K ≤ k := by
      rcases Nat.lt_or_ge k K with h | h
      · have := ct_lt (isE V) h hE
        unfold rk at hKi; omega
      · exact h
    rw [← brg_flat hKk (rk_gap hKi.symm)]
    have hk1 : rk V (k + 1) = rk V k + 1 := by rw [rk_succ, if_pos hE]
    have bs : brg V (k + 1) = brg V k + (if lwc V k 144 = 0 then 1 else 0) := by
      show brg V k + (if (isE V k && decide (lwc V k 144 = 0)) = true then 1 else 0) = _
      rw [hE, Bool.true_and]
      simp
    refine x_gR rfl rfl (x_gI rfl ?_)
    rw [show I1 171 ((3 : Nat) : Int) = ((nE V : Nat) : Int) from M1.2.2.1]
    refine x_le (by omega) (by omega) (fun h => by omega) (fun _ => ?_)
    refine x_gR rfl rfl (x_gR rfl rfl (x_cI (sp_X10_cell (n := 40) rfl (by omega) (by omega) (by omega) (by omega) ?_)))
    have g := (L1.2.2.2 k (by omega) (by omega) hE).1
    rw [rkI_nat] at g
    have lb := ct_le (fun k' => isL V k' && inL V k' k) 144
    have lb : lwc V k 144 ≤ 144 := lb
    dsimp only
    rw [g]
    refine x_eq (by omega) (by omega) (fun h => ?_) (fun h => ?_)
    · rw [if_pos (by omega)] at bs
      exact hJ _ _ ⟨k + 1, by omega, hk1, by rw [bs]; simp only [Int.cast_ofNat_Int, Int.natCast_add, Int.toNat_natCast, i32_add, i32_sub, i32_mul, i32_neg, i32_lit, i64_add, i64_sub, i64_mul, i64_neg, i64_lit, i64_int, Int.natCast_one], rfl⟩
    · rw [if_neg (by omega)] at bs
      exact hJ _ _ ⟨k + 1, by omega, hk1, by rw [bs]; simp only [Int.cast_ofNat_Int, Int.natCast_add, Int.toNat_natCast, i32_add, i32_sub, i32_mul, i32_neg, i32_lit, i64_add, i64_sub, i64_mul, i64_neg, i64_lit, i64_int, Nat.add_zero, Int.natCast_one], rfl⟩
  · rintro av μ ⟨K, hK, hKi, rfl, rfl⟩
    dsimp only [bX10_bridges, bX10_bridges_1]
    refine x_gR rfl rfl (x_gI rfl ?_)
    rw [show I1 171 ((3 : Nat) : Int) = ((nE V : Nat) : Int) from M1.2.2.1]
    rw [brg_flat hK (rk_gap (show rk V 144 = rk V K by rw [hKi]; rfl))] at hq
    exact x_le (by omega) (by omega) (fun _ => x_rI hq) (fun h => by omega)
end Law88
