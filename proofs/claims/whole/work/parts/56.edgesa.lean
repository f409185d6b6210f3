/-! ===== estimates behind measure ===== -/
section Edges86
variable {e : Nat} {I J : IM} {Q : Post} {V : Vw} {s v a b : Int}
theorem sp_X0_estimateOfM (hG : Good V) (hM : Md I V) {k : Nat} (hk : k < 144) (hE : isE V k = true) (hL : 1 ≤ b ∧ b ≤ 9999) (hQ : Q (.inl (some (.int (i32 (est V b k))))) (ME e I J)) : SX0_estimateOf [.ref 171, .int (i32 (rk V k)), .int (i32 b)] (ME e I J) Q := by
  refine x_in (Nat.le_of_ble_eq_true rfl) ?_
  dsimp only [bX0_estimateOf, bX0_estimateOf_0]
  have r := rk_lt40 hG hk hE
  have d := hM.2.2.2.1 k hk hE
  have c := gd_E hG (isE_iff.mp hE)
  have g3 := swg_rg (d := dk V k) (L := b) (by omega) hL
  have d1 : I 181 (rk V k) = wcn V k := d.2.2.2.2.2.1
  have d2 : I 179 (rk V k) = cnt V k := d.2.2.2.1
  have d3 : I 182 (rk V k) = wsu V k := d.2.2.2.2.2.2.1
  have d4 : I 183 (rk V k) = asu V k := d.2.2.2.2.2.2.2
  have d5 : I 178 (rk V k) = dk V k := d.2.2.1
  have w1 := cnt_rg V k
  have w2 := wcn_rg V k
  have w3 := gd_wsu hG k
  have w4 := gd_asu hG k
  have n := hG.2.1
  have w5 : (cnt V k - wcn V k) * 25839 ≤ 40 * 25839 := by omega
  have w6 : wcn V k * 25839 ≤ 40 * 25839 := by omega
  have w7 : ∀ x y M : Int, 0 ≤ y → 0 ≤ M → -(M) ≤ x → x ≤ M → -M ≤ x / y ∧ x / y ≤ M := by
    intro x y M hy hM h1 h2
    rcases Int.lt_or_eq_of_le hy with h | h
    · have := Int.mul_le_mul_of_nonneg_right (show 1 ≤ y by omega) hM
      exact div_bd h (by omega) (by omega)
    · rw [← h, Int.ediv_zero]; omega
  have w8 := w7 (wsu V k) (wcn V k) (40 * 25839) (by omega) (by omega) (by omega) (by omega)
  have w9 := w7 (asu V k) (cnt V k - wcn V k) (40 * 25839) (by omega) (by omega) (by omega) (by omega)
  (repeat' first | ((with_reducible apply x_gR); rfl; rfl) | ((with_reducible apply x_gRs hq); rfl) | ((with_reducible refine x_gI ?_ ?_); rfl; try simp only [Int.cast_ofNat_Int]) | ((with_reducible refine x_gIs hq ?_); try simp only [Int.cast_ofNat_Int]) | ((with_reducible refine x_ob ?_ ?_); rfl) | (with_reducible refine x_obs hq ?_) | (with_reducible refine x_lI ?_) | (with_reducible refine x_lJ ?_) | (with_reducible refine x_le (by omega) (by omega) (fun h => ?_) (fun h => ?_)) | (with_reducible refine x_lt (by omega) (by omega) (fun h => ?_) (fun h => ?_)) | (with_reducible refine x_eq (by omega) (by omega) (fun h => ?_) (fun h => ?_)) | (with_reducible refine x_brT ?_) | (with_reducible refine x_brF ?_) | (with_reducible refine x_rI ?_) | (with_reducible refine x_rV ?_) | (with_reducible refine x_rJ ?_) | (with_reducible refine x_rZ (by omega) ?_) | (with_reducible refine x_rO ?_) | (with_reducible refine x_thr ?_) | ((with_reducible refine x_pI ?_ ?_); rfl; try simp only [Int.cast_ofNat_Int]) | ((with_reducible refine x_pIs hq ?_); try simp only [Int.cast_ofNat_Int]) | ((with_reducible refine x_pZ ?_ (by omega) ?_); rfl; try simp only [Int.cast_ofNat_Int]) | ((with_reducible refine x_pZs hq (by omega) ?_); try simp only [Int.cast_ofNat_Int]) | (with_reducible refine x_pR ?_) | ((with_reducible apply x_aI); (first | assumption | rfl | exact (kb_st _ hq).2.1 | exact (kb_st _ hq).2.2.1 _ (by omega) (by omega) | exact (kb_st _ hq).2.2.2.1 _ (by omega) (by omega)); omega; omega; omega) | ((with_reducible apply x_sA); (first | assumption | rfl | exact (kb_st _ hq).2.1 | exact (kb_st _ hq).2.2.1 _ (by omega) (by omega) | exact (kb_st _ hq).2.2.2.1 _ (by omega) (by omega)); omega; omega; omega) | ((with_reducible apply x_aL); (first | assumption | rfl | exact (kb_st _ hq).2.1 | exact (kb_st _ hq).2.2.1 _ (by omega) (by omega) | exact (kb_st _ hq).2.2.2.1 _ (by omega) (by omega)); omega) | ((with_reducible apply x_cI); (with_reducible apply sp_X10_cell); (first | assumption | rfl | exact (kb_st _ hq).2.1 | exact (kb_st _ hq).2.2.1 _ (by omega) (by omega) | exact (kb_st _ hq).2.2.2.1 _ (by omega) (by omega)); omega; omega; omega; omega) | ((with_reducible refine x_cI (sp_X0_swings ?_ ?_ ?_)); omega; omega) | ((with_reducible refine x_cI (sp_X0_isOdd ?_ ?_ ?_)); omega; omega) | ((with_reducible refine x_cJ (sp_X10_quotient ?_ ?_ ?_)); omega; omega) | ((with_reducible apply x_aB); rfl; omega; omega; omega; omega) | ((with_reducible apply x_sZ); rfl; omega; omega; omega; omega) | ((with_reducible refine x_nz ?_ ?_ ?_ ?_); omega; omega; omega) | ((with_reducible refine x_nzl ?_ ?_ ?_ ?_); omega; omega; omega) | (simp (disch := omega) only [Int.cast_ofNat_Int, Int.natCast_add, Int.toNat_natCast, i32_add, i32_sub, i32_mul, i32_neg, i32_lit, i64_add, i64_sub, i64_mul, i64_neg, i64_lit, i64_int, d1, d2, d3, d4, d5, i32_long, up_self, up_q, up_k]))
  all_goals unfold est NOH at hQ
  all_goals first
    | omega
    | (rw [if_pos (by omega)] at hQ; exact hQ)
    | (rw [if_neg (by omega), if_pos (by omega)] at hQ; exact hQ)
    | (rw [if_neg (by omega), if_neg (by omega)] at hQ; exact hQ)
theorem sp_X0_foundErrorM (hG : Good V) (hM : Md I V) (hL : 1 ≤ a ∧ a ≤ 9999)
    (hQ : ∀ I' : IM, (∀ q, q ≠ 184 → I' q = I q) → Q (.inl (some (.int (i32 (ferr V a))))) (ME e I' J)) : SX0_foundError [.ref 171, .int (i32 a)] (ME e I J) Q := by
  refine x_in (Nat.le_of_ble_eq_true rfl) ?_
  dsimp only [bX0_foundError, bX0_foundError_0]
  have hn := rk_n V 144
  have hnn : nE V = rk V 144 := rfl
  have hn2 := hG.2.1
  refine x_for (rk V 144) (fun i av μ => ∃ (I' : IM) (K : Nat), K ≤ 144 ∧ rk V K = i ∧ av = [.ref 171, .int (i32 a), .int (i32 (estF V a K).1), .int (i32 i)] ∧ μ = ME e I' J ∧ (∀ q, q ≠ 184 → I' q = I q) ∧ ∀ j : Int, 0 ≤ j → j < (estF V a K).1 → I' 184 j = (estF V a K).2 j) ?_ ?_ (Nat.zero_le _) ⟨I, 0, by omega, rfl, by simp only [Int.cast_ofNat_Int, Int.natCast_add, Int.toNat_natCast, i32_add, i32_sub, i32_mul, i32_neg, i32_lit, i64_add, i64_sub, i64_mul, i64_neg, i64_lit, i64_int, estF], rfl, fun _ _ => rfl, fun j h0 h1 => by simp [estF] at h1; omega⟩
  · rintro i av μ hi ⟨I', K, hK, hKi, rfl, rfl, hf, hs⟩ hJ
    dsimp only [bX0_foundError, bX0_foundError_1]
    obtain ⟨k, hk, hE, rfl⟩ := rk_next hi
    have hKk : K ≤ k := by
      rcases Nat.lt_or_ge k K with h | h
      · have := ct_lt (isE V) h hE
        unfold rk at hKi; omega
      · exact h
    have hfl : estF V a k = estF V a K := estF_flat hKk hKi.symm
    have hMb : Md I' V := hM.keep fun p h1 h2 => hf p (by omega)
    have h3 := hMb.2.2.1
    have hc := estF_cnt V a K
    have hb := (estF_bd hG a K).1
    have he := gd_est hG a k
    have hno : NOH = -10000000 := rfl
    have r40 := rk_lt40 hG hk hE
    have hk1 : rk V (k + 1) = rk V k + 1 := by rw [rk_succ, if_pos hE]
    have hs1 := estF_succ V a k
    rw [← hfl] at hs hc hb ⊢
    (repeat' first | ((with_reducible apply x_gR); rfl; rfl) | ((with_reducible apply x_gRs hq); rfl) | ((with_reducible refine x_gI ?_ ?_); rfl; try simp only [Int.cast_ofNat_Int]) | ((with_reducible refine x_gIs hq ?_); try simp only [Int.cast_ofNat_Int]) | ((with_reducible refine x_ob ?_ ?_); rfl) | (with_reducible refine x_obs hq ?_) | (with_reducible refine x_lI ?_) | (with_reducible refine x_lJ ?_) | (with_reducible refine x_le (by omega) (by omega) (fun h => ?_) (fun h => ?_)) | (with_reducible refine x_lt (by omega) (by omega) (fun h => ?_) (fun h => ?_)) | (with_reducible refine x_eq (by omega) (by omega) (fun h => ?_) (fun h => ?_)) | (with_reducible refine x_brT ?_) | (with_reducible refine x_brF ?_) | (with_reducible refine x_rI ?_) | (with_reducible refine x_rV ?_) | (with_reducible refine x_rJ ?_) | (with_reducible refine x_rZ (by omega) ?_) | (with_reducible refine x_rO ?_) | (with_reducible refine x_thr ?_) | ((with_reducible refine x_pI ?_ ?_); rfl; try simp only [Int.cast_ofNat_Int]) | ((with_reducible refine x_pIs hq ?_); try simp only [Int.cast_ofNat_Int]) | ((with_reducible refine x_pZ ?_ (by omega) ?_); rfl; try simp only [Int.cast_ofNat_Int]) | ((with_reducible refine x_pZs hq (by omega) ?_); try simp only [Int.cast_ofNat_Int]) | (with_reducible refine x_pR ?_) | ((with_reducible apply x_aI); (first | assumption | rfl | exact (kb_st _ hq).2.1 | exact (kb_st _ hq).2.2.1 _ (by omega) (by omega) | exact (kb_st _ hq).2.2.2.1 _ (by omega) (by omega)); omega; omega; omega) | ((with_reducible apply x_sA); (first | assumption | rfl | exact (kb_st _ hq).2.1 | exact (kb_st _ hq).2.2.1 _ (by omega) (by omega) | exact (kb_st _ hq).2.2.2.1 _ (by omega) (by omega)); omega; omega; omega) | ((with_reducible apply x_aL); (first | assumption | rfl | exact (kb_st _ hq).2.1 | exact (kb_st _ hq).2.2.1 _ (by omega) (by omega) | exact (kb_st _ hq).2.2.2.1 _ (by omega) (by omega)); omega) | ((with_reducible apply x_cI); (with_reducible apply sp_X10_cell); (first | assumption | rfl | exact (kb_st _ hq).2.1 | exact (kb_st _ hq).2.2.1 _ (by omega) (by omega) | exact (kb_st _ hq).2.2.2.1 _ (by omega) (by omega)); omega; omega; omega; omega) | ((with_reducible refine x_cI (sp_X0_estimateOf hG ?_ ?_ ?_ ?_ ?_)); assumption; omega; assumption; omega) | ((with_reducible refine x_cI (sp_X0_estimateOfM hG ?_ ?_ ?_ ?_ ?_)); assumption; omega; assumption; omega) | ((with_reducible apply x_aB); rfl; omega; omega; omega; omega) | ((with_reducible apply x_sZ); rfl; omega; omega; omega; omega) | ((with_reducible refine x_nz ?_ ?_ ?_ ?_); omega; omega; omega) | ((with_reducible refine x_nzl ?_ ?_ ?_ ?_); omega; omega; omega) | (simp (disch := omega) only [Int.cast_ofNat_Int, Int.natCast_add, Int.toNat_natCast, i32_add, i32_sub, i32_mul, i32_neg, i32_lit, i64_add, i64_sub, i64_mul, i64_neg, i64_lit, i64_int, h3, i32_long, up_self, up_q, up_k]))
    all_goals (try omega)
    · apply hJ
      rw [if_pos (by omega)] at hs1
      exact ⟨I', k + 1, by omega, hk1, by simp only [Int.cast_ofNat_Int, Int.natCast_add, Int.toNat_natCast, i32_add, i32_sub, i32_mul, i32_neg, i32_lit, i64_add, i64_sub, i64_mul, i64_neg, i64_lit, i64_int, hs1], rfl, hf, by rw [hs1]; exact hs⟩
    · refine x_cV (sp_X0_insert (n := (estF V a k).1) (v := est V a k) (I := I') (by omega) (by omega) (fun j h0 h1 => by rw [hs j h0 h1]; have := hb j; omega) fun I2 g1 g2 => ?_)
      dsimp only
      apply hJ
      rw [if_neg (by omega)] at hs1
      refine ⟨I2, k + 1, by omega, hk1, by simp only [Int.cast_ofNat_Int, Int.natCast_add, Int.toNat_natCast, i32_add, i32_sub, i32_mul, i32_neg, i32_lit, i64_add, i64_sub, i64_mul, i64_neg, i64_lit, i64_int, hs1], rfl, fun q h => by rw [g1 q h, hf q h], fun j h0 h1 => ?_⟩
      rw [hs1] at h1 ⊢
      rw [g2]
      exact insA_congr _ _ _ hs j h0 (by simp only [] at h1; omega)
  · rintro av μ ⟨I', K, hK, hKi, rfl, rfl, hf, hs⟩
    dsimp only [bX0_foundError, bX0_foundError_1]
    have h3 : I' 171 3 = nE V := by rw [hf 171 (by omega)]; exact hM.2.2.1
    have hfl : estF V a 144 = estF V a K := estF_flat hK hKi.symm
    have hc := estF_cnt V a K
    have hn3 : rk V K ≤ 40 := by omega
    have hq := hQ I' hf
    unfold ferr at hq
    rw [hfl] at hq
    (repeat' first | ((with_reducible apply x_gR); rfl; rfl) | ((with_reducible apply x_gRs hq); rfl) | ((with_reducible refine x_gI ?_ ?_); rfl; try simp only [Int.cast_ofNat_Int]) | ((with_reducible refine x_gIs hq ?_); try simp only [Int.cast_ofNat_Int]) | ((with_reducible refine x_ob ?_ ?_); rfl) | (with_reducible refine x_obs hq ?_) | (with_reducible refine x_lI ?_) | (with_reducible refine x_lJ ?_) | (with_reducible refine x_le (by omega) (by omega) (fun h => ?_) (fun h => ?_)) | (with_reducible refine x_lt (by omega) (by omega) (fun h => ?_) (fun h => ?_)) | (with_reducible refine x_eq (by omega) (by omega) (fun h => ?_) (fun h => ?_)) | (with_reducible refine x_brT ?_) | (with_reducible refine x_brF ?_) | (with_reducible refine x_rI ?_) | (with_reducible refine x_rV ?_) | (with_reducible refine x_rJ ?_) | (with_reducible refine x_rZ (by omega) ?_) | (with_reducible refine x_rO ?_) | (with_reducible refine x_thr ?_) | ((with_reducible refine x_pI ?_ ?_); rfl; try simp only [Int.cast_ofNat_Int]) | ((with_reducible refine x_pIs hq ?_); try simp only [Int.cast_ofNat_Int]) | ((with_reducible refine x_pZ ?_ (by omega) ?_); rfl; try simp only [Int.cast_ofNat_Int]) | ((with_reducible refine x_pZs hq (by omega) ?_); try simp only [Int.cast_ofNat_Int]) | (with_reducible refine x_pR ?_) | ((with_reducible apply x_aI); (first | assumption | rfl | exact (kb_st _ hq).2.1 | exact (kb_st _ hq).2.2.1 _ (by omega) (by omega) | exact (kb_st _ hq).2.2.2.1 _ (by omega) (by omega)); omega; omega; omega) | ((with_reducible apply x_sA); (first | assumption | rfl | exact (kb_st _ hq).2.1 | exact (kb_st _ hq).2.2.1 _ (by omega) (by omega) | exact (kb_st _ hq).2.2.2.1 _ (by omega) (by omega)); omega; omega; omega) | ((with_reducible apply x_aL); (first | assumption | rfl | exact (kb_st _ hq).2.1 | exact (kb_st _ hq).2.2.1 _ (by omega) (by omega) | exact (kb_st _ hq).2.2.2.1 _ (by omega) (by omega)); omega) | ((with_reducible apply x_cI); (with_reducible apply sp_X10_cell); (first | assumption | rfl | exact (kb_st _ hq).2.1 | exact (kb_st _ hq).2.2.1 _ (by omega) (by omega) | exact (kb_st _ hq).2.2.2.1 _ (by omega) (by omega)); omega; omega; omega; omega) | ((with_reducible apply x_aB); rfl; omega; omega; omega; omega) | ((with_reducible apply x_sZ); rfl; omega; omega; omega; omega) | ((with_reducible refine x_nz ?_ ?_ ?_ ?_); omega; omega; omega) | ((with_reducible refine x_nzl ?_ ?_ ?_ ?_); omega; omega; omega) | (simp (disch := omega) only [Int.cast_ofNat_Int, Int.natCast_add, Int.toNat_natCast, i32_add, i32_sub, i32_mul, i32_neg, i32_lit, i64_add, i64_sub, i64_mul, i64_neg, i64_lit, i64_int, h3, i32_long, up_self, up_q, up_k]))
    · rw [if_pos (by omega)] at hq; exact hq
    · rw [if_neg (by omega)] at hq
      rw [i32_div (by omega) (by omega) (by omega) (by omega), Int.tdiv_eq_ediv_of_nonneg (by omega)]
      have h9 := hs (((estF V a K).1 - 1 : Int) / 2) (by omega) (by omega)
      (repeat' first | ((with_reducible apply x_gR); rfl; rfl) | ((with_reducible apply x_gRs hq); rfl) | ((with_reducible refine x_gI ?_ ?_); rfl; try simp only [Int.cast_ofNat_Int]) | ((with_reducible refine x_gIs hq ?_); try simp only [Int.cast_ofNat_Int]) | ((with_reducible refine x_ob ?_ ?_); rfl) | (with_reducible refine x_obs hq ?_) | (with_reducible refine x_lI ?_) | (with_reducible refine x_lJ ?_) | (with_reducible refine x_le (by omega) (by omega) (fun h => ?_) (fun h => ?_)) | (with_reducible refine x_lt (by omega) (by omega) (fun h => ?_) (fun h => ?_)) | (with_reducible refine x_eq (by omega) (by omega) (fun h => ?_) (fun h => ?_)) | (with_reducible refine x_brT ?_) | (with_reducible refine x_brF ?_) | (with_reducible refine x_rI ?_) | (with_reducible refine x_rV ?_) | (with_reducible refine x_rJ ?_) | (with_reducible refine x_rZ (by omega) ?_) | (with_reducible refine x_rO ?_) | (with_reducible refine x_thr ?_) | ((with_reducible refine x_pI ?_ ?_); rfl; try simp only [Int.cast_ofNat_Int]) | ((with_reducible refine x_pIs hq ?_); try simp only [Int.cast_ofNat_Int]) | ((with_reducible refine x_pZ ?_ (by omega) ?_); rfl; try simp only [Int.cast_ofNat_Int]) | ((with_reducible refine x_pZs hq (by omega) ?_); try simp only [Int.cast_ofNat_Int]) | (with_reducible refine x_pR ?_) | ((with_reducible apply x_aI); (first | assumption | rfl | exact (kb_st _ hq).2.1 | exact (kb_st _ hq).2.2.1 _ (by omega) (by omega) | exact (kb_st _ hq).2.2.2.1 _ (by omega) (by omega)); omega; omega; omega) | ((with_reducible apply x_sA); (first | assumption | rfl | exact (kb_st _ hq).2.1 | exact (kb_st _ hq).2.2.1 _ (by omega) (by omega) | exact (kb_st _ hq).2.2.2.1 _ (by omega) (by omega)); omega; omega; omega) | ((with_reducible apply x_aL); (first | assumption | rfl | exact (kb_st _ hq).2.1 | exact (kb_st _ hq).2.2.1 _ (by omega) (by omega) | exact (kb_st _ hq).2.2.2.1 _ (by omega) (by omega)); omega) | ((with_reducible apply x_cI); (with_reducible apply sp_X10_cell); (first | assumption | rfl | exact (kb_st _ hq).2.1 | exact (kb_st _ hq).2.2.1 _ (by omega) (by omega) | exact (kb_st _ hq).2.2.2.1 _ (by omega) (by omega)); omega; omega; omega; omega) | ((with_reducible apply x_aB); rfl; omega; omega; omega; omega) | ((with_reducible apply x_sZ); rfl; omega; omega; omega; omega) | ((with_reducible refine x_nz ?_ ?_ ?_ ?_); omega; omega; omega) | ((with_reducible refine x_nzl ?_ ?_ ?_ ?_); omega; omega; omega) | (simp (disch := omega) only [Int.cast_ofNat_Int, Int.natCast_add, Int.toNat_natCast, i32_add, i32_sub, i32_mul, i32_neg, i32_lit, i64_add, i64_sub, i64_mul, i64_neg, i64_lit, i64_int, h9, i32_long, up_self, up_q, up_k]))
      exact hq
    all_goals omega
end Edges86
