section Edges51
variable {e : Nat} {I J : IM} {Q : Post} {V : Vw} {s v a b : Int}
theorem rk_nE {k : Nat} (hk : k < 144) (hE : isE V k = true) : rk V k < nE V := ct_lt (isE V) hk hE
theorem nE40 (hG : Good V) : nE V ≤ 40 := by have := rk_n V 144; have := hG.2.1; unfold nE; omega
theorem Md.edge {I : IM} (h : Md I V) (hG : Good V) {i : Int} (h0 : 0 ≤ i) (h1 : i < vn V) (hc : vG V 5 i = 0) : ∃ k : Nat, k < 144 ∧ isE V k = true ∧ pr V i = k ∧ I 175 (pr V i) = rk V k ∧ rk V k < 40 := by
  have p := gd_pr hG h0 h1
  have hE := prE hG h0 h1 hc
  refine ⟨(pr V i).toNat, by omega, by rw [Int.toNat_of_nonneg p.1]; exact hE, by omega, ?_, rk_lt40 hG (by omega) (by rw [Int.toNat_of_nonneg p.1]; exact hE)⟩
  have := h.2.2.2.2 (pr V i).toNat (by omega)
  rw [Int.toNat_of_nonneg p.1, if_pos hE] at this
  exact this
theorem sp_X0_riseFrom (hG : Good V) (hM : Md I V) {k : Nat} (hk : k < 144) (hE : isE V k = true) (hb : b = (k : Int) / 12 ∨ b = (k : Int) % 12)
    (hQ : Q (.inl (some (.int (i32 (if b = (k : Int) / 12 then ris V k else -ris V k))))) (ME e I J)) : SX0_riseFrom [.ref 171, .int (i32 (rk V k)), .int (i32 b)] (ME e I J) Q := by
  refine x_in (Nat.le_of_ble_eq_true rfl) ?_
  dsimp only [bX0_riseFrom, bX0_riseFrom_0]
  have r := rk_lt40 hG hk hE
  have d := hM.2.2.2.1 k hk hE
  have d1 := d.1
  have d2 := d.2.2.2.2.1
  have c := gd_E hG (isE_iff.mp hE)
  (repeat' first | ((with_reducible apply x_gR); rfl; rfl) | ((with_reducible apply x_gRs hq); rfl) | ((with_reducible refine x_gI ?_ ?_); rfl; try simp only [Int.cast_ofNat_Int]) | ((with_reducible refine x_gIs hq ?_); try simp only [Int.cast_ofNat_Int]) | ((with_reducible refine x_ob ?_ ?_); rfl) | (with_reducible refine x_obs hq ?_) | (with_reducible refine x_lI ?_) | (with_reducible refine x_lJ ?_) | (with_reducible refine x_le (by omega) (by omega) (fun h => ?_) (fun h => ?_)) | (with_reducible refine x_lt (by omega) (by omega) (fun h => ?_) (fun h => ?_)) | (with_reducible refine x_eq (by omega) (by omega) (fun h => ?_) (fun h => ?_)) | (with_reducible refine x_brT ?_) | (with_reducible refine x_brF ?_) | (with_reducible refine x_rI ?_) | (with_reducible refine x_rV ?_) | (with_reducible refine x_rJ ?_) | (with_reducible refine x_rZ (by omega) ?_) | (with_reducible refine x_rO ?_) | (with_reducible refine x_thr ?_) | ((with_reducible refine x_pI ?_ ?_); rfl; try simp only [Int.cast_ofNat_Int]) | ((with_reducible refine x_pIs hq ?_); try simp only [Int.cast_ofNat_Int]) | ((with_reducible refine x_pZ ?_ (by omega) ?_); rfl; try simp only [Int.cast_ofNat_Int]) | ((with_reducible refine x_pZs hq (by omega) ?_); try simp only [Int.cast_ofNat_Int]) | (with_reducible refine x_pR ?_) | ((with_reducible apply x_aI); (first | assumption | rfl | exact (kb_st _ hq).2.1 | exact (kb_st _ hq).2.2.1 _ (by omega) (by omega) | exact (kb_st _ hq).2.2.2.1 _ (by omega) (by omega)); omega; omega; omega) | ((with_reducible apply x_sA); (first | assumption | rfl | exact (kb_st _ hq).2.1 | exact (kb_st _ hq).2.2.1 _ (by omega) (by omega) | exact (kb_st _ hq).2.2.2.1 _ (by omega) (by omega)); omega; omega; omega) | ((with_reducible apply x_aL); (first | assumption | rfl | exact (kb_st _ hq).2.1 | exact (kb_st _ hq).2.2.1 _ (by omega) (by omega) | exact (kb_st _ hq).2.2.2.1 _ (by omega) (by omega)); omega) | ((with_reducible apply x_cI); (with_reducible apply sp_X10_cell); (first | assumption | rfl | exact (kb_st _ hq).2.1 | exact (kb_st _ hq).2.2.1 _ (by omega) (by omega) | exact (kb_st _ hq).2.2.2.1 _ (by omega) (by omega)); omega; omega; omega; omega) | ((with_reducible apply x_aB); rfl; omega; omega; omega; omega) | ((with_reducible apply x_sZ); rfl; omega; omega; omega; omega) | ((with_reducible refine x_nz ?_ ?_ ?_ ?_); omega; omega; omega) | ((with_reducible refine x_nzl ?_ ?_ ?_ ?_); omega; omega; omega) | (simp (disch := omega) only [Int.cast_ofNat_Int, Int.natCast_add, Int.toNat_natCast, i32_add, i32_sub, i32_mul, i32_neg, i32_lit, i64_add, i64_sub, i64_mul, i64_neg, i64_lit, i64_int, d1, d2, i32_long, up_self, up_q, up_k]))
  · rw [if_pos (by omega)] at hQ; exact hQ
  · rw [if_neg (by omega)] at hQ; exact hQ
theorem sp_X0_weightOf (hG : Good V) (hM : Md I V) {k : Nat} (hk : k < 144) (hE : isE V k = true) (hQ : Q (.inl (some (.int (i32 (wgt V k))))) (ME e I J)) : SX0_weightOf [.ref 171, .int (i32 (rk V k))] (ME e I J) Q := by
  refine x_in (Nat.le_of_ble_eq_true rfl) ?_
  dsimp only [bX0_weightOf, bX0_weightOf_0]
  have r := rk_lt40 hG hk hE
  have d := hM.2.2.2.1 k hk hE
  have d1 := d.2.2.2.1
  have d2 := d.2.2.1
  have c := gd_E hG (isE_iff.mp hE)
  (repeat' first | ((with_reducible apply x_gR); rfl; rfl) | ((with_reducible apply x_gRs hq); rfl) | ((with_reducible refine x_gI ?_ ?_); rfl; try simp only [Int.cast_ofNat_Int]) | ((with_reducible refine x_gIs hq ?_); try simp only [Int.cast_ofNat_Int]) | ((with_reducible refine x_ob ?_ ?_); rfl) | (with_reducible refine x_obs hq ?_) | (with_reducible refine x_lI ?_) | (with_reducible refine x_lJ ?_) | (with_reducible refine x_le (by omega) (by omega) (fun h => ?_) (fun h => ?_)) | (with_reducible refine x_lt (by omega) (by omega) (fun h => ?_) (fun h => ?_)) | (with_reducible refine x_eq (by omega) (by omega) (fun h => ?_) (fun h => ?_)) | (with_reducible refine x_brT ?_) | (with_reducible refine x_brF ?_) | (with_reducible refine x_rI ?_) | (with_reducible refine x_rV ?_) | (with_reducible refine x_rJ ?_) | (with_reducible refine x_rZ (by omega) ?_) | (with_reducible refine x_rO ?_) | (with_reducible refine x_thr ?_) | ((with_reducible refine x_pI ?_ ?_); rfl; try simp only [Int.cast_ofNat_Int]) | ((with_reducible refine x_pIs hq ?_); try simp only [Int.cast_ofNat_Int]) | ((with_reducible refine x_pZ ?_ (by omega) ?_); rfl; try simp only [Int.cast_ofNat_Int]) | ((with_reducible refine x_pZs hq (by omega) ?_); try simp only [Int.cast_ofNat_Int]) | (with_reducible refine x_pR ?_) | ((with_reducible apply x_aI); (first | assumption | rfl | exact (kb_st _ hq).2.1 | exact (kb_st _ hq).2.2.1 _ (by omega) (by omega) | exact (kb_st _ hq).2.2.2.1 _ (by omega) (by omega)); omega; omega; omega) | ((with_reducible apply x_sA); (first | assumption | rfl | exact (kb_st _ hq).2.1 | exact (kb_st _ hq).2.2.1 _ (by omega) (by omega) | exact (kb_st _ hq).2.2.2.1 _ (by omega) (by omega)); omega; omega; omega) | ((with_reducible apply x_aL); (first | assumption | rfl | exact (kb_st _ hq).2.1 | exact (kb_st _ hq).2.2.1 _ (by omega) (by omega) | exact (kb_st _ hq).2.2.2.1 _ (by omega) (by omega)); omega) | ((with_reducible apply x_cI); (with_reducible apply sp_X10_cell); (first | assumption | rfl | exact (kb_st _ hq).2.1 | exact (kb_st _ hq).2.2.1 _ (by omega) (by omega) | exact (kb_st _ hq).2.2.2.1 _ (by omega) (by omega)); omega; omega; omega; omega) | ((with_reducible refine x_cJ (sp_X10_quotient ?_ ?_ ?_)); omega; omega) | ((with_reducible apply x_aB); rfl; omega; omega; omega; omega) | ((with_reducible apply x_sZ); rfl; omega; omega; omega; omega) | ((with_reducible refine x_nz ?_ ?_ ?_ ?_); omega; omega; omega) | ((with_reducible refine x_nzl ?_ ?_ ?_ ?_); omega; omega; omega) | (simp (disch := omega) only [Int.cast_ofNat_Int, Int.natCast_add, Int.toNat_natCast, i32_add, i32_sub, i32_mul, i32_neg, i32_lit, i64_add, i64_sub, i64_mul, i64_neg, i64_lit, i64_int, d1, d2, i32_long, up_self, up_q, up_k]))
  exact hQ
def oth (k m : Int) : Int := if k / 12 = m then k % 12 else if k % 12 = m then k / 12 else -1
theorem sp_X0_otherEnd (hG : Good V) (hM : Md I V) {k : Nat} (hk : k < 144) (hE : isE V k = true) (hb : -1000 ≤ b ∧ b ≤ 1000)
    (hQ : Q (.inl (some (.int (i32 (oth k b))))) (ME e I J)) : SX0_otherEnd [.ref 171, .int (i32 (rk V k)), .int (i32 b)] (ME e I J) Q := by
  refine x_in (Nat.le_of_ble_eq_true rfl) ?_
  dsimp only [bX0_otherEnd, bX0_otherEnd_0]
  have r := rk_lt40 hG hk hE
  have d := hM.2.2.2.1 k hk hE
  have d1 := d.1
  have d2 := d.2.1
  have c := gd_E hG (isE_iff.mp hE)
  (repeat' first | ((with_reducible apply x_gR); rfl; rfl) | ((with_reducible apply x_gRs hq); rfl) | ((with_reducible refine x_gI ?_ ?_); rfl; try simp only [Int.cast_ofNat_Int]) | ((with_reducible refine x_gIs hq ?_); try simp only [Int.cast_ofNat_Int]) | ((with_reducible refine x_ob ?_ ?_); rfl) | (with_reducible refine x_obs hq ?_) | (with_reducible refine x_lI ?_) | (with_reducible refine x_lJ ?_) | (with_reducible refine x_le (by omega) (by omega) (fun h => ?_) (fun h => ?_)) | (with_reducible refine x_lt (by omega) (by omega) (fun h => ?_) (fun h => ?_)) | (with_reducible refine x_eq (by omega) (by omega) (fun h => ?_) (fun h => ?_)) | (with_reducible refine x_brT ?_) | (with_reducible refine x_brF ?_) | (with_reducible refine x_rI ?_) | (with_reducible refine x_rV ?_) | (with_reducible refine x_rJ ?_) | (with_reducible refine x_rZ (by omega) ?_) | (with_reducible refine x_rO ?_) | (with_reducible refine x_thr ?_) | ((with_reducible refine x_pI ?_ ?_); rfl; try simp only [Int.cast_ofNat_Int]) | ((with_reducible refine x_pIs hq ?_); try simp only [Int.cast_ofNat_Int]) | ((with_reducible refine x_pZ ?_ (by omega) ?_); rfl; try simp only [Int.cast_ofNat_Int]) | ((with_reducible refine x_pZs hq (by omega) ?_); try simp only [Int.cast_ofNat_Int]) | (with_reducible refine x_pR ?_) | ((with_reducible apply x_aI); (first | assumption | rfl | exact (kb_st _ hq).2.1 | exact (kb_st _ hq).2.2.1 _ (by omega) (by omega) | exact (kb_st _ hq).2.2.2.1 _ (by omega) (by omega)); omega; omega; omega) | ((with_reducible apply x_sA); (first | assumption | rfl | exact (kb_st _ hq).2.1 | exact (kb_st _ hq).2.2.1 _ (by omega) (by omega) | exact (kb_st _ hq).2.2.2.1 _ (by omega) (by omega)); omega; omega; omega) | ((with_reducible apply x_aL); (first | assumption | rfl | exact (kb_st _ hq).2.1 | exact (kb_st _ hq).2.2.1 _ (by omega) (by omega) | exact (kb_st _ hq).2.2.2.1 _ (by omega) (by omega)); omega) | ((with_reducible apply x_cI); (with_reducible apply sp_X10_cell); (first | assumption | rfl | exact (kb_st _ hq).2.1 | exact (kb_st _ hq).2.2.1 _ (by omega) (by omega) | exact (kb_st _ hq).2.2.2.1 _ (by omega) (by omega)); omega; omega; omega; omega) | ((with_reducible apply x_aB); rfl; omega; omega; omega; omega) | ((with_reducible apply x_sZ); rfl; omega; omega; omega; omega) | ((with_reducible refine x_nz ?_ ?_ ?_ ?_); omega; omega; omega) | ((with_reducible refine x_nzl ?_ ?_ ?_ ?_); omega; omega; omega) | (simp (disch := omega) only [Int.cast_ofNat_Int, Int.natCast_add, Int.toNat_natCast, i32_add, i32_sub, i32_mul, i32_neg, i32_lit, i64_add, i64_sub, i64_mul, i64_neg, i64_lit, i64_int, d1, d2, i32_long, up_self, up_q, up_k]))
  · unfold oth at hQ; rw [if_pos (by omega)] at hQ; exact hQ
  · unfold oth at hQ; rw [if_neg (by omega), if_pos (by omega)] at hQ; exact hQ
  · unfold oth at hQ; rw [if_neg (by omega), if_neg (by omega)] at hQ; exact hQ
/-- how many edges a mark has -/
def deg (V : Vw) (m : Int) (K : Nat) : Nat := ct (fun k => isE V k && decide (k / 12 = m ∨ k % 12 = m)) K
theorem ct_flat {p : Int → Bool} {K K' : Nat} (h : K ≤ K') (hn : ∀ j : Nat, K ≤ j → j < K' → p j = false) : ct p K' = ct p K := by
  obtain ⟨d, rfl⟩ : ∃ d, K' = K + d := ⟨K' - K, by omega⟩
  induction d with
  | zero => rfl
  | succ d ih =>
    rw [show K + (d + 1) = (K + d) + 1 by omega]
    simp only [ct]
    rw [hn (K + d) (by omega) (by omega), ih (by omega) (fun j h1 h2 => hn j h1 (by omega))]
    simp
/-- no edge lies between -/
theorem rk_gap {K K' : Nat} (hr : rk V K' = rk V K) : ∀ j : Nat, K ≤ j → j < K' → isE V j = false := by
  intro j h1 h2
  cases hE : isE V j
  · rfl
  · have a := ct_lt (isE V) h2 hE
    have b : ct (isE V) K ≤ ct (isE V) j := ct_mono _ h1
    unfold rk at hr; omega
theorem sp_X0_edgesAt (hG : Good V) (hM : Md I V) (hb : 0 ≤ b ∧ b ≤ 1000)
    (hQ : Q (.inl (some (.int (i32 (deg V b 144))))) (ME e I J)) : SX0_edgesAt [.ref 171, .int (i32 b)] (ME e I J) Q := by
  refine x_in (Nat.le_of_ble_eq_true rfl) ?_
  dsimp only [bX0_edgesAt, bX0_edgesAt_0]
  have h40 := nE40 hG
  have h3 := hM.2.2.1
  refine x_for (nE V) (fun i av μ => ∃ K : Nat, K ≤ 144 ∧ rk V K = i ∧ av = [.ref 171, .int (i32 b), .int (i32 (deg V b K)), .int (i32 i)] ∧ μ = ME e I J) ?_ ?_ (Nat.zero_le _) ⟨0, by omega, rfl, by simp only [Int.cast_ofNat_Int, Int.natCast_add, Int.toNat_natCast, i32_add, i32_sub, i32_mul, i32_neg, i32_lit, i64_add, i64_sub, i64_mul, i64_neg, i64_lit, i64_int, deg, ct], rfl⟩
  · rintro i av μ hi ⟨K, hK, hKi, rfl, rfl⟩ hJ
    dsimp only [bX0_edgesAt, bX0_edgesAt_1]
    obtain ⟨k, hk, hE, rfl⟩ := rk_next hi
    have hKk : K ≤ k := by
      rcases Nat.lt_or_ge k K with h | h
      · have := ct_lt (isE V) h hE
        unfold rk at hKi; omega
      · exact h
    have hfl : deg V b k = deg V b K := ct_flat hKk fun j h1 h2 => by rw [rk_gap hKi.symm j h1 h2]; rfl
    have hk1 : rk V (k + 1) = rk V k + 1 := by rw [rk_succ, if_pos hE]
    have c := gd_E hG (isE_iff.mp hE)
    have hdl := ct_le (fun k => isE V k && decide (k / 12 = b ∨ k % 12 = b)) k
    have hd1 : deg V b (k + 1) = deg V b k + (if (isE V k && decide ((k : Int) / 12 = b ∨ (k : Int) % 12 = b)) = true then 1 else 0) := rfl
    rw [hE, Bool.true_and] at hd1
    have ho : oth k b = -1 ↔ ¬ ((k : Int) / 12 = b ∨ (k : Int) % 12 = b) := by unfold oth; split <;> (try split) <;> omega
    have ho2 : -1 ≤ oth k b ∧ oth k b < 12 := by unfold oth; split <;> (try split) <;> omega
    rw [← hfl]
    (repeat' first | ((with_reducible apply x_gR); rfl; rfl) | ((with_reducible apply x_gRs hq); rfl) | ((with_reducible refine x_gI ?_ ?_); rfl; try simp only [Int.cast_ofNat_Int]) | ((with_reducible refine x_gIs hq ?_); try simp only [Int.cast_ofNat_Int]) | ((with_reducible refine x_ob ?_ ?_); rfl) | (with_reducible refine x_obs hq ?_) | (with_reducible refine x_lI ?_) | (with_reducible refine x_lJ ?_) | (with_reducible refine x_le (by omega) (by omega) (fun h => ?_) (fun h => ?_)) | (with_reducible refine x_lt (by omega) (by omega) (fun h => ?_) (fun h => ?_)) | (with_reducible refine x_eq (by omega) (by omega) (fun h => ?_) (fun h => ?_)) | (with_reducible refine x_brT ?_) | (with_reducible refine x_brF ?_) | (with_reducible refine x_rI ?_) | (with_reducible refine x_rV ?_) | (with_reducible refine x_rJ ?_) | (with_reducible refine x_rZ (by omega) ?_) | (with_reducible refine x_rO ?_) | (with_reducible refine x_thr ?_) | ((with_reducible refine x_pI ?_ ?_); rfl; try simp only [Int.cast_ofNat_Int]) | ((with_reducible refine x_pIs hq ?_); try simp only [Int.cast_ofNat_Int]) | ((with_reducible refine x_pZ ?_ (by omega) ?_); rfl; try simp only [Int.cast_ofNat_Int]) | ((with_reducible refine x_pZs hq (by omega) ?_); try simp only [Int.cast_ofNat_Int]) | (with_reducible refine x_pR ?_) | ((with_reducible apply x_aI); (first | assumption | rfl | exact (kb_st _ hq).2.1 | exact (kb_st _ hq).2.2.1 _ (by omega) (by omega) | exact (kb_st _ hq).2.2.2.1 _ (by omega) (by omega)); omega; omega; omega) | ((with_reducible apply x_sA); (first | assumption | rfl | exact (kb_st _ hq).2.1 | exact (kb_st _ hq).2.2.1 _ (by omega) (by omega) | exact (kb_st _ hq).2.2.2.1 _ (by omega) (by omega)); omega; omega; omega) | ((with_reducible apply x_aL); (first | assumption | rfl | exact (kb_st _ hq).2.1 | exact (kb_st _ hq).2.2.1 _ (by omega) (by omega) | exact (kb_st _ hq).2.2.2.1 _ (by omega) (by omega)); omega) | ((with_reducible refine x_cI (sp_X0_otherEnd hG ?_ ?_ ?_ ?_ ?_)); assumption; omega; assumption; omega) | ((with_reducible apply x_aB); rfl; omega; omega; omega; omega) | ((with_reducible apply x_sZ); rfl; omega; omega; omega; omega) | ((with_reducible refine x_nz ?_ ?_ ?_ ?_); omega; omega; omega) | ((with_reducible refine x_nzl ?_ ?_ ?_ ?_); omega; omega; omega) | (simp (disch := omega) only [Int.cast_ofNat_Int, Int.natCast_add, Int.toNat_natCast, i32_add, i32_sub, i32_mul, i32_neg, i32_lit, i64_add, i64_sub, i64_mul, i64_neg, i64_lit, i64_int, h3, i32_long, up_self, up_q, up_k]))
    all_goals (try omega)
    · rw [if_neg (by simp only [decide_eq_true_eq]; exact ho.mp h)] at hd1
      have hd2 : deg V b (k + 1) = deg V b k := by omega
      apply hJ
      exact ⟨k + 1, by omega, hk1, by simp only [Int.cast_ofNat_Int, Int.natCast_add, Int.toNat_natCast, i32_add, i32_sub, i32_mul, i32_neg, i32_lit, i64_add, i64_sub, i64_mul, i64_neg, i64_lit, i64_int, hd2], rfl⟩
    · rw [if_pos (by simp only [decide_eq_true_eq]; exact Decidable.not_not.mp fun q => h (ho.mpr q))] at hd1
      apply hJ
      exact ⟨k + 1, by omega, hk1, by simp only [Int.cast_ofNat_Int, Int.natCast_add, Int.toNat_natCast, i32_add, i32_sub, i32_mul, i32_neg, i32_lit, i64_add, i64_sub, i64_mul, i64_neg, i64_lit, i64_int, hd1], rfl⟩
  · rintro av μ ⟨K, hK, hKi, rfl, rfl⟩
    dsimp only [bX0_edgesAt, bX0_edgesAt_1]
    have hfl : deg V b 144 = deg V b K := ct_flat hK fun j h1 h2 => by rw [rk_gap hKi.symm j h1 h2]; rfl
    rw [hfl] at hQ
    (repeat' first | ((with_reducible apply x_gR); rfl; rfl) | ((with_reducible apply x_gRs hq); rfl) | ((with_reducible refine x_gI ?_ ?_); rfl; try simp only [Int.cast_ofNat_Int]) | ((with_reducible refine x_gIs hq ?_); try simp only [Int.cast_ofNat_Int]) | ((with_reducible refine x_ob ?_ ?_); rfl) | (with_reducible refine x_obs hq ?_) | (with_reducible refine x_lI ?_) | (with_reducible refine x_lJ ?_) | (with_reducible refine x_le (by omega) (by omega) (fun h => ?_) (fun h => ?_)) | (with_reducible refine x_lt (by omega) (by omega) (fun h => ?_) (fun h => ?_)) | (with_reducible refine x_eq (by omega) (by omega) (fun h => ?_) (fun h => ?_)) | (with_reducible refine x_brT ?_) | (with_reducible refine x_brF ?_) | (with_reducible refine x_rI ?_) | (with_reducible refine x_rV ?_) | (with_reducible refine x_rJ ?_) | (with_reducible refine x_rZ (by omega) ?_) | (with_reducible refine x_rO ?_) | (with_reducible refine x_thr ?_) | ((with_reducible refine x_pI ?_ ?_); rfl; try simp only [Int.cast_ofNat_Int]) | ((with_reducible refine x_pIs hq ?_); try simp only [Int.cast_ofNat_Int]) | ((with_reducible refine x_pZ ?_ (by omega) ?_); rfl; try simp only [Int.cast_ofNat_Int]) | ((with_reducible refine x_pZs hq (by omega) ?_); try simp only [Int.cast_ofNat_Int]) | (with_reducible refine x_pR ?_) | ((with_reducible apply x_aI); (first | assumption | rfl | exact (kb_st _ hq).2.1 | exact (kb_st _ hq).2.2.1 _ (by omega) (by omega) | exact (kb_st _ hq).2.2.2.1 _ (by omega) (by omega)); omega; omega; omega) | ((with_reducible apply x_sA); (first | assumption | rfl | exact (kb_st _ hq).2.1 | exact (kb_st _ hq).2.2.1 _ (by omega) (by omega) | exact (kb_st _ hq).2.2.2.1 _ (by omega) (by omega)); omega; omega; omega) | ((with_reducible apply x_aL); (first | assumption | rfl | exact (kb_st _ hq).2.1 | exact (kb_st _ hq).2.2.1 _ (by omega) (by omega) | exact (kb_st _ hq).2.2.2.1 _ (by omega) (by omega)); omega) | ((with_reducible apply x_aB); rfl; omega; omega; omega; omega) | ((with_reducible apply x_sZ); rfl; omega; omega; omega; omega) | ((with_reducible refine x_nz ?_ ?_ ?_ ?_); omega; omega; omega) | ((with_reducible refine x_nzl ?_ ?_ ?_ ?_); omega; omega; omega) | (simp (disch := omega) only [Int.cast_ofNat_Int, Int.natCast_add, Int.toNat_natCast, i32_add, i32_sub, i32_mul, i32_neg, i32_lit, i64_add, i64_sub, i64_mul, i64_neg, i64_lit, i64_int, h3, i32_long, up_self, up_q, up_k]))
    all_goals (try omega)
    all_goals exact hQ
/-- the least and the greatest rise of an edge's sights, so far; whether there was one -/
def spr (V : Vw) (k : Int) : Nat → Bool × Int × Int
  | 0 => (false, 0, 0)
  | i + 1 => if vG V 5 i = 0 ∧ pr V i = k then
      (true, (if (spr V k i).1 = true ∧ (spr V k i).2.1 ≤ flp V i (rs V i) then (spr V k i).2.1 else flp V i (rs V i)), (if (spr V k i).1 = true ∧ flp V i (rs V i) ≤ (spr V k i).2.2 then (spr V k i).2.2 else flp V i (rs V i)))
    else spr V k i
theorem spr_bd (hG : Good V) (k : Int) : ∀ n : Nat, n ≤ vn V → (-51678 ≤ (spr V k n).2.1 ∧ (spr V k n).2.1 ≤ 51678) ∧ (-51678 ≤ (spr V k n).2.2 ∧ (spr V k n).2.2 ≤ 51678) := by
  intro n
  induction n with
  | zero => intro _; simp [spr]
  | succ n ih =>
    intro hn
    have h1 := ih (by omega)
    have h2 := gd_flp (V := V) (s := (n : Int)) (gd_rs hG (s := n) (by omega) (by omega))
    simp only [spr]
    split
    · refine ⟨?_, ?_⟩
      · simp only []; split <;> omega
      · simp only []; split <;> omega
    · exact h1
end Edges51
