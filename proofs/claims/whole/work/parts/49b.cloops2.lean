section CL57
variable {e : Nat} {I J : IM} {Q : Post} {V : Vw} {s v a b x y : Int}
/-- loops below pair K that hold edge j; those of them that don't close -/
noncomputable def lwc (V : Vw) (j : Int) (K : Nat) : Nat := ct (fun k => isL V k && inL V k j) K
noncomputable def low (V : Vw) (lim j : Int) (K : Nat) : Nat := ct (fun k => isL V k && inL V k j && !clo V lim k) K
noncomputable def ncl (V : Vw) (lim : Int) (K : Nat) : Nat := ct (fun k => isL V k && clo V lim k) K
theorem lk_succ {k : Nat} : lk V (k + 1) = lk V k + (if isL V k = true then 1 else 0) := rfl
/-- what the class knows of its loops behind gather -/
def Gl (I : IM) (V : Vw) (lim : Int) (K : Nat) : Prop :=
  I 191 2 = lk V K ∧ I 191 3 = ncl V lim K ∧ (∀ k : Nat, k < K → isL V k = true → L1 I V (lk V k) k) ∧
  ∀ j : Int, 0 ≤ j → j < 144 → isE V j = true → I 196 (rkI V j) = lwc V j K ∧ I 197 (rkI V j) = low V lim j K
theorem cE_inL (hG : Good V) {k : Int} (hL : isL V k = true) (j : Int) : cE V k j (lD V k + 1) = if inL V k j = true then 1 else 0 := by
  unfold inL
  rcases cE_01 hG hL j (lD V k + 1) (Nat.le_refl _) with h | h <;> rw [h.1] <;> simp
theorem fT_rk (hG : Good V) (hg : Gw I V) {k : Nat} (hk : k < 144) (hE : isE V k = true) : I 187 (rk V k) = if isL V k = true then 0 else 1 := by
  have := hg.2.2 k (by omega) (by omega) hE
  rw [rkI_nat] at this
  rw [this]
  unfold isL
  rw [hE]
  cases fT (forest V) k <;> rfl
theorem sp_X4_gather (hG : Good V) (hW : Rwl I 5 V) (hM : Md I V) (hg : Gw I V) (hl : 0 ≤ b ∧ b ≤ 1000)
    (hQ : ∀ I' : IM, (∀ q, q < 191 ∨ 197 < q → I' q = I q) → Gl I' V b 144 → Q (.inl none) (ME e I' J)) : SX4_gather [.ref 191, .int (i32 b)] (ME e I J) Q := by
  refine x_in (Nat.le_of_ble_eq_true rfl) ?_
  dsimp only [bX4_gather, bX4_gather_0]
  have h40 := nE40 hG
  (repeat' first | ((with_reducible apply x_gR); rfl; rfl) | ((with_reducible apply x_gRs hq); rfl) | ((with_reducible refine x_gI ?_ ?_); rfl; try simp only [Int.cast_ofNat_Int]) | ((with_reducible refine x_gIs hq ?_); try simp only [Int.cast_ofNat_Int]) | ((with_reducible refine x_ob ?_ ?_); rfl) | (with_reducible refine x_obs hq ?_) | (with_reducible refine x_lI ?_) | (with_reducible refine x_lJ ?_) | (with_reducible refine x_le (by omega) (by omega) (fun h => ?_) (fun h => ?_)) | (with_reducible refine x_lt (by omega) (by omega) (fun h => ?_) (fun h => ?_)) | (with_reducible refine x_eq (by omega) (by omega) (fun h => ?_) (fun h => ?_)) | (with_reducible refine x_brT ?_) | (with_reducible refine x_brF ?_) | (with_reducible refine x_rI ?_) | (with_reducible refine x_rV ?_) | (with_reducible refine x_rJ ?_) | (with_reducible refine x_rZ (by omega) ?_) | (with_reducible refine x_rO ?_) | (with_reducible refine x_thr ?_) | ((with_reducible refine x_pI ?_ ?_); rfl; try simp only [Int.cast_ofNat_Int]) | ((with_reducible refine x_pIs hq ?_); try simp only [Int.cast_ofNat_Int]) | ((with_reducible refine x_pZ ?_ (by omega) ?_); rfl; try simp only [Int.cast_ofNat_Int]) | ((with_reducible refine x_pZs hq (by omega) ?_); try simp only [Int.cast_ofNat_Int]) | (with_reducible refine x_pR ?_) | ((with_reducible apply x_aI); (first | assumption | rfl | exact (kb_st _ hq).2.1 | exact (kb_st _ hq).2.2.1 _ (by omega) (by omega) | exact (kb_st _ hq).2.2.2.1 _ (by omega) (by omega)); omega; omega; omega) | ((with_reducible apply x_sA); (first | assumption | rfl | exact (kb_st _ hq).2.1 | exact (kb_st _ hq).2.2.1 _ (by omega) (by omega) | exact (kb_st _ hq).2.2.2.1 _ (by omega) (by omega)); omega; omega; omega) | ((with_reducible apply x_aL); (first | assumption | rfl | exact (kb_st _ hq).2.1 | exact (kb_st _ hq).2.2.1 _ (by omega) (by omega) | exact (kb_st _ hq).2.2.2.1 _ (by omega) (by omega)); omega) | ((with_reducible apply x_cV); (with_reducible apply sp_X10_fill); (first | assumption | rfl | exact (kb_st _ hq).2.1 | exact (kb_st _ hq).2.2.1 _ (by omega) (by omega) | exact (kb_st _ hq).2.2.2.1 _ (by omega) (by omega)); omega) | ((with_reducible apply x_cI); (with_reducible apply sp_X10_cell); (first | assumption | rfl | exact (kb_st _ hq).2.1 | exact (kb_st _ hq).2.2.1 _ (by omega) (by omega) | exact (kb_st _ hq).2.2.2.1 _ (by omega) (by omega)); omega; omega; omega; omega) | ((with_reducible apply x_aB); rfl; omega; omega; omega; omega) | ((with_reducible apply x_sZ); rfl; omega; omega; omega; omega) | ((with_reducible refine x_nz ?_ ?_ ?_ ?_); omega; omega; omega) | ((with_reducible refine x_nzl ?_ ?_ ?_ ?_); omega; omega; omega) | (simp (disch := omega) only [Int.cast_ofNat_Int, Int.natCast_add, Int.toNat_natCast, i32_add, i32_sub, i32_mul, i32_neg, i32_lit, i64_add, i64_sub, i64_mul, i64_neg, i64_lit, i64_int, i32_long, up_self, up_q, up_k]))
  refine x_for (nE V) (fun i av μ => ∃ (I' : IM) (K : Nat), K ≤ 144 ∧ rk V K = i ∧ av = [.ref 191, .int (i32 b), .int (i32 i)] ∧ μ = ME e I' J ∧ (∀ q, q < 191 ∨ 197 < q → I' q = I q) ∧ Gl I' V b K) ?_ ?_ (Nat.zero_le _) ⟨_, 0, by omega, rfl, (by simp only [Int.cast_ofNat_Int, Int.natCast_add, Int.toNat_natCast, i32_add, i32_sub, i32_mul, i32_neg, i32_lit, i64_add, i64_sub, i64_mul, i64_neg, i64_lit, i64_int]), rfl, fun q h => ?_, ?_⟩
  · rintro i av μ hi ⟨I', K, hK, hKi, rfl, rfl, hf, hL⟩ hJ
    dsimp only [bX4_gather, bX4_gather_1]
    obtain ⟨k, hk, hE, rfl⟩ := rk_next hi
    have hKk : K ≤ k := by
      rcases Nat.lt_or_ge k K with h | h
      · have := ct_lt (isE V) h hE
        unfold rk at hKi; omega
      · exact h
    have gap := rk_gap hKi.symm
    have gl0 : ∀ j : Nat, K ≤ j → j < k → isL V j = false := fun j h1 h2 => by unfold isL; rw [gap j h1 h2]; rfl
    have hL : Gl I' V b k := by
      have e1 : lk V k = lk V K := ct_flat hKk gl0
      have e2 : ncl V b k = ncl V b K := ct_flat hKk fun j h1 h2 => by rw [gl0 j h1 h2]; rfl
      refine ⟨by rw [e1]; exact hL.1, by rw [e2]; exact hL.2.1, fun j hj hLj => hL.2.2.1 j ?_ hLj, fun j q1 q2 q3 => ?_⟩
      · rcases Nat.lt_or_ge j K with h | h
        · exact h
        · rw [gl0 j h hj] at hLj; exact absurd hLj (by decide)
      · have e3 : lwc V j k = lwc V j K := ct_flat hKk fun i h1 h2 => by rw [gl0 i h1 h2]; rfl
        have e4 : low V b j k = low V b j K := ct_flat hKk fun i h1 h2 => by rw [gl0 i h1 h2]; rfl
        rw [e3, e4]
        exact hL.2.2.2 j q1 q2 q3
    have hk1 : rk V (k + 1) = rk V k + 1 := by rw [rk_succ, if_pos hE]
    have r40 := rk_lt40 hG hk hE
    have M' : Md I' V := by
      unfold Md M1 at *
      rw [hf 171 (by omega), hf 172 (by omega), hf 173 (by omega), hf 174 (by omega), hf 175 (by omega), hf 176 (by omega), hf 177 (by omega), hf 178 (by omega), hf 179 (by omega), hf 180 (by omega), hf 181 (by omega), hf 182 (by omega), hf 183 (by omega)]
      exact hM
    have g' : Gw I' V := by
      unfold Gw Rf at *
      rw [hf 185 (by omega), hf 187 (by omega), hf 188 (by omega), hf 189 (by omega), hf 190 (by omega)]
      exact hg
    have W' : Rwl I' 5 V := hW.keep fun d hd => hf _ (by omega)
    have h3 := M'.2.2.1
    have ht := fT_rk hG g' hk hE
    have n1 := hL.1
    by_cases hLk : isL V k = true
    · have l40 := lk_40 hG hk hLk
      rw [if_pos hLk] at ht
      (repeat' first | ((with_reducible apply x_gR); rfl; rfl) | ((with_reducible apply x_gRs hq); rfl) | ((with_reducible refine x_gI ?_ ?_); rfl; try simp only [Int.cast_ofNat_Int]) | ((with_reducible refine x_gIs hq ?_); try simp only [Int.cast_ofNat_Int]) | ((with_reducible refine x_ob ?_ ?_); rfl) | (with_reducible refine x_obs hq ?_) | (with_reducible refine x_lI ?_) | (with_reducible refine x_lJ ?_) | (with_reducible refine x_le (by omega) (by omega) (fun h => ?_) (fun h => ?_)) | (with_reducible refine x_lt (by omega) (by omega) (fun h => ?_) (fun h => ?_)) | (with_reducible refine x_eq (by omega) (by omega) (fun h => ?_) (fun h => ?_)) | (with_reducible refine x_brT ?_) | (with_reducible refine x_brF ?_) | (with_reducible refine x_rI ?_) | (with_reducible refine x_rV ?_) | (with_reducible refine x_rJ ?_) | (with_reducible refine x_rZ (by omega) ?_) | (with_reducible refine x_rO ?_) | (with_reducible refine x_thr ?_) | ((with_reducible refine x_pI ?_ ?_); rfl; try simp only [Int.cast_ofNat_Int]) | ((with_reducible refine x_pIs hq ?_); try simp only [Int.cast_ofNat_Int]) | ((with_reducible refine x_pZ ?_ (by omega) ?_); rfl; try simp only [Int.cast_ofNat_Int]) | ((with_reducible refine x_pZs hq (by omega) ?_); try simp only [Int.cast_ofNat_Int]) | (with_reducible refine x_pR ?_) | ((with_reducible apply x_aI); (first | assumption | rfl | exact (kb_st _ hq).2.1 | exact (kb_st _ hq).2.2.1 _ (by omega) (by omega) | exact (kb_st _ hq).2.2.2.1 _ (by omega) (by omega)); omega; omega; omega) | ((with_reducible apply x_sA); (first | assumption | rfl | exact (kb_st _ hq).2.1 | exact (kb_st _ hq).2.2.1 _ (by omega) (by omega) | exact (kb_st _ hq).2.2.2.1 _ (by omega) (by omega)); omega; omega; omega) | ((with_reducible apply x_aL); (first | assumption | rfl | exact (kb_st _ hq).2.1 | exact (kb_st _ hq).2.2.1 _ (by omega) (by omega) | exact (kb_st _ hq).2.2.2.1 _ (by omega) (by omega)); omega) | ((with_reducible apply x_cI); (with_reducible apply sp_X10_cell); (first | assumption | rfl | exact (kb_st _ hq).2.1 | exact (kb_st _ hq).2.2.1 _ (by omega) (by omega) | exact (kb_st _ hq).2.2.2.1 _ (by omega) (by omega)); omega; omega; omega; omega) | ((with_reducible apply x_aB); rfl; omega; omega; omega; omega) | ((with_reducible apply x_sZ); rfl; omega; omega; omega; omega) | ((with_reducible refine x_nz ?_ ?_ ?_ ?_); omega; omega; omega) | ((with_reducible refine x_nzl ?_ ?_ ?_ ?_); omega; omega; omega) | (simp (disch := omega) only [Int.cast_ofNat_Int, Int.natCast_add, Int.toNat_natCast, i32_add, i32_sub, i32_mul, i32_neg, i32_lit, i64_add, i64_sub, i64_mul, i64_neg, i64_lit, i64_int, h3, ht, i32_long, up_self, up_q, up_k]))
      all_goals (try omega)
      refine x_cV (sp_X4_trace hG W' M' g' hk hLk l40 n1 fun I2 f2 L2 o2 => ?_)
      have n2 : I2 191 2 = lk V k := by rw [f2 191 (by omega)]; exact n1
      have lc := lC_bd hG hE
      have lw := lW_bd hG hE
      (repeat' first | ((with_reducible apply x_gR); rfl; rfl) | ((with_reducible apply x_gRs hq); rfl) | ((with_reducible refine x_gI ?_ ?_); rfl; try simp only [Int.cast_ofNat_Int]) | ((with_reducible refine x_gIs hq ?_); try simp only [Int.cast_ofNat_Int]) | ((with_reducible refine x_ob ?_ ?_); rfl) | (with_reducible refine x_obs hq ?_) | (with_reducible refine x_lI ?_) | (with_reducible refine x_lJ ?_) | (with_reducible refine x_le (by omega) (by omega) (fun h => ?_) (fun h => ?_)) | (with_reducible refine x_lt (by omega) (by omega) (fun h => ?_) (fun h => ?_)) | (with_reducible refine x_eq (by omega) (by omega) (fun h => ?_) (fun h => ?_)) | (with_reducible refine x_brT ?_) | (with_reducible refine x_brF ?_) | (with_reducible refine x_rI ?_) | (with_reducible refine x_rV ?_) | (with_reducible refine x_rJ ?_) | (with_reducible refine x_rZ (by omega) ?_) | (with_reducible refine x_rO ?_) | (with_reducible refine x_thr ?_) | ((with_reducible refine x_pI ?_ ?_); rfl; try simp only [Int.cast_ofNat_Int]) | ((with_reducible refine x_pIs hq ?_); try simp only [Int.cast_ofNat_Int]) | ((with_reducible refine x_pZ ?_ (by omega) ?_); rfl; try simp only [Int.cast_ofNat_Int]) | ((with_reducible refine x_pZs hq (by omega) ?_); try simp only [Int.cast_ofNat_Int]) | (with_reducible refine x_pR ?_) | ((with_reducible apply x_aI); (first | assumption | rfl | exact (kb_st _ hq).2.1 | exact (kb_st _ hq).2.2.1 _ (by omega) (by omega) | exact (kb_st _ hq).2.2.2.1 _ (by omega) (by omega)); omega; omega; omega) | ((with_reducible apply x_sA); (first | assumption | rfl | exact (kb_st _ hq).2.1 | exact (kb_st _ hq).2.2.1 _ (by omega) (by omega) | exact (kb_st _ hq).2.2.2.1 _ (by omega) (by omega)); omega; omega; omega) | ((with_reducible apply x_aL); (first | assumption | rfl | exact (kb_st _ hq).2.1 | exact (kb_st _ hq).2.2.1 _ (by omega) (by omega) | exact (kb_st _ hq).2.2.2.1 _ (by omega) (by omega)); omega) | ((with_reducible apply x_aB); rfl; omega; omega; omega; omega) | ((with_reducible apply x_sZ); rfl; omega; omega; omega; omega) | ((with_reducible refine x_nz ?_ ?_ ?_ ?_); omega; omega; omega) | ((with_reducible refine x_nzl ?_ ?_ ?_ ?_); omega; omega; omega) | (simp (disch := omega) only [Int.cast_ofNat_Int, Int.natCast_add, Int.toNat_natCast, i32_add, i32_sub, i32_mul, i32_neg, i32_lit, i64_add, i64_sub, i64_mul, i64_neg, i64_lit, i64_int, n2, i32_long, up_self, up_q, up_k]))
      refine x_cI (sp_X4_closes l40 L2.2.2.1 L2.2.1 (by omega) (by omega) hl ?_)
      have hv : (if 1000 * (lC V k * lC V k) ≤ lW V k * b * b then (1 : Int) else 0) = if clo V b k = true then 1 else 0 := by unfold clo; simp only [decide_eq_true_eq]
      rw [hv]
      have M2 : Md I2 V := by
        unfold Md M1 at *
        rw [f2 171 (by omega), f2 172 (by omega), f2 173 (by omega), f2 174 (by omega), f2 175 (by omega), f2 176 (by omega), f2 177 (by omega), f2 178 (by omega), f2 179 (by omega), f2 180 (by omega), f2 181 (by omega), f2 182 (by omega), f2 183 (by omega)]
        exact M'
      (repeat' first | ((with_reducible apply x_gR); rfl; rfl) | ((with_reducible apply x_gRs hq); rfl) | ((with_reducible refine x_gI ?_ ?_); rfl; try simp only [Int.cast_ofNat_Int]) | ((with_reducible refine x_gIs hq ?_); try simp only [Int.cast_ofNat_Int]) | ((with_reducible refine x_ob ?_ ?_); rfl) | (with_reducible refine x_obs hq ?_) | (with_reducible refine x_lI ?_) | (with_reducible refine x_lJ ?_) | (with_reducible refine x_le (by omega) (by omega) (fun h => ?_) (fun h => ?_)) | (with_reducible refine x_lt (by omega) (by omega) (fun h => ?_) (fun h => ?_)) | (with_reducible refine x_eq (by omega) (by omega) (fun h => ?_) (fun h => ?_)) | (with_reducible refine x_brT ?_) | (with_reducible refine x_brF ?_) | (with_reducible refine x_rI ?_) | (with_reducible refine x_rV ?_) | (with_reducible refine x_rJ ?_) | (with_reducible refine x_rZ (by omega) ?_) | (with_reducible refine x_rO ?_) | (with_reducible refine x_thr ?_) | ((with_reducible refine x_pI ?_ ?_); rfl; try simp only [Int.cast_ofNat_Int]) | ((with_reducible refine x_pIs hq ?_); try simp only [Int.cast_ofNat_Int]) | ((with_reducible refine x_pZ ?_ (by omega) ?_); rfl; try simp only [Int.cast_ofNat_Int]) | ((with_reducible refine x_pZs hq (by omega) ?_); try simp only [Int.cast_ofNat_Int]) | (with_reducible refine x_pR ?_) | ((with_reducible apply x_aI); (first | assumption | rfl | exact (kb_st _ hq).2.1 | exact (kb_st _ hq).2.2.1 _ (by omega) (by omega) | exact (kb_st _ hq).2.2.2.1 _ (by omega) (by omega)); omega; omega; omega) | ((with_reducible apply x_sA); (first | assumption | rfl | exact (kb_st _ hq).2.1 | exact (kb_st _ hq).2.2.1 _ (by omega) (by omega) | exact (kb_st _ hq).2.2.2.1 _ (by omega) (by omega)); omega; omega; omega) | ((with_reducible apply x_aL); (first | assumption | rfl | exact (kb_st _ hq).2.1 | exact (kb_st _ hq).2.2.1 _ (by omega) (by omega) | exact (kb_st _ hq).2.2.2.1 _ (by omega) (by omega)); omega) | ((with_reducible apply x_aB); rfl; omega; omega; omega; omega) | ((with_reducible apply x_sZ); rfl; omega; omega; omega; omega) | ((with_reducible refine x_nz ?_ ?_ ?_ ?_); omega; omega; omega) | ((with_reducible refine x_nzl ?_ ?_ ?_ ?_); omega; omega; omega) | (simp (disch := omega) only [Int.cast_ofNat_Int, Int.natCast_add, Int.toNat_natCast, i32_add, i32_sub, i32_mul, i32_neg, i32_lit, i64_add, i64_sub, i64_mul, i64_neg, i64_lit, i64_int, i32_long, up_self, up_q, up_k]))
      refine x_cV (sp_X4_countEdges hG M2 hk hLk l40 n2 L2 (by split <;> omega) fun I3 f3 c3 => ?_)
      have n3 : I3 191 2 = lk V k := by rw [f3 191 (by omega) (by omega)]; exact n2
      have c3' : I3 191 3 = ncl V b k := by rw [f3 191 (by omega) (by omega), f2 191 (by omega)]; exact hL.2.1
      have ncb : ncl V b k ≤ k := ct_le _ _
      have dd := lD_ok hG hE
      -- the new state of the loops
      have hend : ∀ I4 : IM, (∀ q, q ≠ 191 → I4 q = I3 q) → I4 191 2 = lk V k + 1 → I4 191 3 = ncl V b k + (if clo V b k = true then 1 else 0) → fx bX4_gather 1 [.ref 191, .int (i32 b), .int (i32 ((rk V k : Int) + 1))] (ME e I4 J) Q := by
        intro I4 f4 a1 a2
        apply hJ
        have s1 : lk V (k + 1) = lk V k + 1 := by rw [lk_succ, if_pos hLk]
        have s2 : ncl V b (k + 1) = ncl V b k + (if clo V b k = true then 1 else 0) := by
          show ncl V b k + (if (isL V k && clo V b k) = true then 1 else 0) = _
          rw [hLk, Bool.true_and]
        refine ⟨I4, k + 1, by omega, hk1, (by simp only [Int.cast_ofNat_Int, Int.natCast_add, Int.toNat_natCast, i32_add, i32_sub, i32_mul, i32_neg, i32_lit, i64_add, i64_sub, i64_mul, i64_neg, i64_lit, i64_int]), rfl, fun q h => by rw [f4 q (by omega), f3 q (by omega) (by omega), f2 q (by omega), hf q h], ?_, ?_, fun j hj hLj => ?_, fun j q1 q2 q3 => ?_⟩
        · rw [a1, s1]; omega
        · rw [a2, s2]; split <;> omega
        · have e4 : I4 192 = I2 192 ∧ I4 193 = I2 193 ∧ I4 194 = I2 194 ∧ I4 195 = I2 195 := ⟨by rw [f4 192 (by omega), f3 192 (by omega) (by omega)], by rw [f4 193 (by omega), f3 193 (by omega) (by omega)], by rw [f4 194 (by omega), f3 194 (by omega) (by omega)], by rw [f4 195 (by omega), f3 195 (by omega) (by omega)]⟩
          have key : L1 I2 V (lk V j) j := by
            by_cases hjk : j = k
            · subst hjk; exact L2
            · have hlt : lk V j < lk V k := ct_lt (isL V) (by omega) hLj
              exact (hL.2.2.1 j (by omega) hLj).keep (o2 _ hlt) (lD_ok hG (isL_E hLj).1).2.2
          unfold L1 at *
          rw [e4.1, e4.2.1, e4.2.2.1, e4.2.2.2]
          exact key
        · have c := c3 j q1 q2 q3
          have o := hL.2.2.2 j q1 q2 q3
          rw [cE_inL hG hLk] at c
          have t1 : lwc V j (k + 1) = lwc V j k + (if inL V k j = true then 1 else 0) := by
            show lwc V j k + (if (isL V k && inL V k j) = true then 1 else 0) = _
            rw [hLk, Bool.true_and]
          have t2 : low V b j (k + 1) = low V b j k + (if (inL V k j && !clo V b k) = true then 1 else 0) := by
            show low V b j k + (if (isL V k && inL V k j && !clo V b k) = true then 1 else 0) = _
            rw [hLk, Bool.true_and]
          rw [f4 196 (by omega), f4 197 (by omega), c.1, c.2, t1, t2, f2 196 (by omega), f2 197 (by omega), o.1, o.2]
          cases inL V k j <;> cases clo V b k <;> simp
      (repeat' first | ((with_reducible apply x_gR); rfl; rfl) | ((with_reducible apply x_gRs hq); rfl) | ((with_reducible refine x_gI ?_ ?_); rfl; try simp only [Int.cast_ofNat_Int]) | ((with_reducible refine x_gIs hq ?_); try simp only [Int.cast_ofNat_Int]) | ((with_reducible refine x_ob ?_ ?_); rfl) | (with_reducible refine x_obs hq ?_) | (with_reducible refine x_lI ?_) | (with_reducible refine x_lJ ?_) | (with_reducible refine x_le (by omega) (by omega) (fun h => ?_) (fun h => ?_)) | (with_reducible refine x_lt (by omega) (by omega) (fun h => ?_) (fun h => ?_)) | (with_reducible refine x_eq (by omega) (by omega) (fun h => ?_) (fun h => ?_)) | (with_reducible refine x_brT ?_) | (with_reducible refine x_brF ?_) | (with_reducible refine x_rI ?_) | (with_reducible refine x_rV ?_) | (with_reducible refine x_rJ ?_) | (with_reducible refine x_rZ (by omega) ?_) | (with_reducible refine x_rO ?_) | (with_reducible refine x_thr ?_) | ((with_reducible refine x_pI ?_ ?_); rfl; try simp only [Int.cast_ofNat_Int]) | ((with_reducible refine x_pIs hq ?_); try simp only [Int.cast_ofNat_Int]) | ((with_reducible refine x_pZ ?_ (by omega) ?_); rfl; try simp only [Int.cast_ofNat_Int]) | ((with_reducible refine x_pZs hq (by omega) ?_); try simp only [Int.cast_ofNat_Int]) | (with_reducible refine x_pR ?_) | ((with_reducible apply x_aI); (first | assumption | rfl | exact (kb_st _ hq).2.1 | exact (kb_st _ hq).2.2.1 _ (by omega) (by omega) | exact (kb_st _ hq).2.2.2.1 _ (by omega) (by omega)); omega; omega; omega) | ((with_reducible apply x_sA); (first | assumption | rfl | exact (kb_st _ hq).2.1 | exact (kb_st _ hq).2.2.1 _ (by omega) (by omega) | exact (kb_st _ hq).2.2.2.1 _ (by omega) (by omega)); omega; omega; omega) | ((with_reducible apply x_aL); (first | assumption | rfl | exact (kb_st _ hq).2.1 | exact (kb_st _ hq).2.2.1 _ (by omega) (by omega) | exact (kb_st _ hq).2.2.2.1 _ (by omega) (by omega)); omega) | ((with_reducible apply x_aB); rfl; omega; omega; omega; omega) | ((with_reducible apply x_sZ); rfl; omega; omega; omega; omega) | ((with_reducible refine x_nz ?_ ?_ ?_ ?_); omega; omega; omega) | ((with_reducible refine x_nzl ?_ ?_ ?_ ?_); omega; omega; omega) | (simp (disch := omega) only [Int.cast_ofNat_Int, Int.natCast_add, Int.toNat_natCast, i32_add, i32_sub, i32_mul, i32_neg, i32_lit, i64_add, i64_sub, i64_mul, i64_neg, i64_lit, i64_int, n3, c3', i32_long, up_self, up_q, up_k]))
      all_goals (try omega)
      · have hcl : ¬ clo V b k = true := fun q => by rw [if_pos q] at h; omega
        exact hend _ (fun q h => up_ne_q h) up_self (by rw [up_k (by omega), c3', if_neg hcl]; omega)
      · have hcl : clo V b k = true := Decidable.not_not.mp fun q => h (if_neg q)
        exact hend _ (fun q h => by rw [up_ne_q h, up_ne_q h]) up_self (by rw [up_k (by omega), up_self, if_pos hcl])
    · rw [if_neg hLk] at ht
      (repeat' first | ((with_reducible apply x_gR); rfl; rfl) | ((with_reducible apply x_gRs hq); rfl) | ((with_reducible refine x_gI ?_ ?_); rfl; try simp only [Int.cast_ofNat_Int]) | ((with_reducible refine x_gIs hq ?_); try simp only [Int.cast_ofNat_Int]) | ((with_reducible refine x_ob ?_ ?_); rfl) | (with_reducible refine x_obs hq ?_) | (with_reducible refine x_lI ?_) | (with_reducible refine x_lJ ?_) | (with_reducible refine x_le (by omega) (by omega) (fun h => ?_) (fun h => ?_)) | (with_reducible refine x_lt (by omega) (by omega) (fun h => ?_) (fun h => ?_)) | (with_reducible refine x_eq (by omega) (by omega) (fun h => ?_) (fun h => ?_)) | (with_reducible refine x_brT ?_) | (with_reducible refine x_brF ?_) | (with_reducible refine x_rI ?_) | (with_reducible refine x_rV ?_) | (with_reducible refine x_rJ ?_) | (with_reducible refine x_rZ (by omega) ?_) | (with_reducible refine x_rO ?_) | (with_reducible refine x_thr ?_) | ((with_reducible refine x_pI ?_ ?_); rfl; try simp only [Int.cast_ofNat_Int]) | ((with_reducible refine x_pIs hq ?_); try simp only [Int.cast_ofNat_Int]) | ((with_reducible refine x_pZ ?_ (by omega) ?_); rfl; try simp only [Int.cast_ofNat_Int]) | ((with_reducible refine x_pZs hq (by omega) ?_); try simp only [Int.cast_ofNat_Int]) | (with_reducible refine x_pR ?_) | ((with_reducible apply x_aI); (first | assumption | rfl | exact (kb_st _ hq).2.1 | exact (kb_st _ hq).2.2.1 _ (by omega) (by omega) | exact (kb_st _ hq).2.2.2.1 _ (by omega) (by omega)); omega; omega; omega) | ((with_reducible apply x_sA); (first | assumption | rfl | exact (kb_st _ hq).2.1 | exact (kb_st _ hq).2.2.1 _ (by omega) (by omega) | exact (kb_st _ hq).2.2.2.1 _ (by omega) (by omega)); omega; omega; omega) | ((with_reducible apply x_aL); (first | assumption | rfl | exact (kb_st _ hq).2.1 | exact (kb_st _ hq).2.2.1 _ (by omega) (by omega) | exact (kb_st _ hq).2.2.2.1 _ (by omega) (by omega)); omega) | ((with_reducible apply x_cI); (with_reducible apply sp_X10_cell); (first | assumption | rfl | exact (kb_st _ hq).2.1 | exact (kb_st _ hq).2.2.1 _ (by omega) (by omega) | exact (kb_st _ hq).2.2.2.1 _ (by omega) (by omega)); omega; omega; omega; omega) | ((with_reducible apply x_aB); rfl; omega; omega; omega; omega) | ((with_reducible apply x_sZ); rfl; omega; omega; omega; omega) | ((with_reducible refine x_nz ?_ ?_ ?_ ?_); omega; omega; omega) | ((with_reducible refine x_nzl ?_ ?_ ?_ ?_); omega; omega; omega) | (simp (disch := omega) only [Int.cast_ofNat_Int, Int.natCast_add, Int.toNat_natCast, i32_add, i32_sub, i32_mul, i32_neg, i32_lit, i64_add, i64_sub, i64_mul, i64_neg, i64_lit, i64_int, h3, ht, i32_long, up_self, up_q, up_k]))
      all_goals (try omega)
      apply hJ
      have hLk2 : isL V k = false := Bool.eq_false_iff.mpr hLk
      have e1 : lk V (k + 1) = lk V k := by rw [lk_succ, if_neg hLk]; rfl
      have e2 : ncl V b (k + 1) = ncl V b k := ct_flat (by omega) fun j h1 h2 => by rw [show j = k by omega, hLk2]; rfl
      refine ⟨I', k + 1, by omega, hk1, (by simp only [Int.cast_ofNat_Int, Int.natCast_add, Int.toNat_natCast, i32_add, i32_sub, i32_mul, i32_neg, i32_lit, i64_add, i64_sub, i64_mul, i64_neg, i64_lit, i64_int]), rfl, hf, by rw [e1]; exact hL.1, by rw [e2]; exact hL.2.1, fun j hj hLj => hL.2.2.1 j ?_ hLj, fun j q1 q2 q3 => ?_⟩
      · rcases Nat.lt_or_ge j k with h | h
        · exact h
        · rw [show j = k by omega] at hLj; exact absurd hLj hLk
      · have e3 : lwc V j (k + 1) = lwc V j k := ct_flat (by omega) fun i h1 h2 => by rw [show i = k by omega, hLk2]; rfl
        have e4 : low V b j (k + 1) = low V b j k := ct_flat (by omega) fun i h1 h2 => by rw [show i = k by omega, hLk2]; rfl
        rw [e3, e4]
        exact hL.2.2.2 j q1 q2 q3
  · rintro av μ ⟨I', K, hK, hKi, rfl, rfl, hf, hL⟩
    dsimp only [bX4_gather, bX4_gather_1]
    have h3 : I' 171 3 = nE V := by rw [hf 171 (by omega)]; exact hM.2.2.1
    have gap := rk_gap hKi.symm
    have gl0 : ∀ j : Nat, K ≤ j → j < 144 → isL V j = false := fun j h1 h2 => by unfold isL; rw [gap j h1 h2]; rfl
    (repeat' first | ((with_reducible apply x_gR); rfl; rfl) | ((with_reducible apply x_gRs hq); rfl) | ((with_reducible refine x_gI ?_ ?_); rfl; try simp only [Int.cast_ofNat_Int]) | ((with_reducible refine x_gIs hq ?_); try simp only [Int.cast_ofNat_Int]) | ((with_reducible refine x_ob ?_ ?_); rfl) | (with_reducible refine x_obs hq ?_) | (with_reducible refine x_lI ?_) | (with_reducible refine x_lJ ?_) | (with_reducible refine x_le (by omega) (by omega) (fun h => ?_) (fun h => ?_)) | (with_reducible refine x_lt (by omega) (by omega) (fun h => ?_) (fun h => ?_)) | (with_reducible refine x_eq (by omega) (by omega) (fun h => ?_) (fun h => ?_)) | (with_reducible refine x_brT ?_) | (with_reducible refine x_brF ?_) | (with_reducible refine x_rI ?_) | (with_reducible refine x_rV ?_) | (with_reducible refine x_rJ ?_) | (with_reducible refine x_rZ (by omega) ?_) | (with_reducible refine x_rO ?_) | (with_reducible refine x_thr ?_) | ((with_reducible refine x_pI ?_ ?_); rfl; try simp only [Int.cast_ofNat_Int]) | ((with_reducible refine x_pIs hq ?_); try simp only [Int.cast_ofNat_Int]) | ((with_reducible refine x_pZ ?_ (by omega) ?_); rfl; try simp only [Int.cast_ofNat_Int]) | ((with_reducible refine x_pZs hq (by omega) ?_); try simp only [Int.cast_ofNat_Int]) | (with_reducible refine x_pR ?_) | ((with_reducible apply x_aI); (first | assumption | rfl | exact (kb_st _ hq).2.1 | exact (kb_st _ hq).2.2.1 _ (by omega) (by omega) | exact (kb_st _ hq).2.2.2.1 _ (by omega) (by omega)); omega; omega; omega) | ((with_reducible apply x_sA); (first | assumption | rfl | exact (kb_st _ hq).2.1 | exact (kb_st _ hq).2.2.1 _ (by omega) (by omega) | exact (kb_st _ hq).2.2.2.1 _ (by omega) (by omega)); omega; omega; omega) | ((with_reducible apply x_aL); (first | assumption | rfl | exact (kb_st _ hq).2.1 | exact (kb_st _ hq).2.2.1 _ (by omega) (by omega) | exact (kb_st _ hq).2.2.2.1 _ (by omega) (by omega)); omega) | ((with_reducible apply x_aB); rfl; omega; omega; omega; omega) | ((with_reducible apply x_sZ); rfl; omega; omega; omega; omega) | ((with_reducible refine x_nz ?_ ?_ ?_ ?_); omega; omega; omega) | ((with_reducible refine x_nzl ?_ ?_ ?_ ?_); omega; omega; omega) | (simp (disch := omega) only [Int.cast_ofNat_Int, Int.natCast_add, Int.toNat_natCast, i32_add, i32_sub, i32_mul, i32_neg, i32_lit, i64_add, i64_sub, i64_mul, i64_neg, i64_lit, i64_int, h3, i32_long, up_self, up_q, up_k]))
    all_goals (try omega)
    refine hQ I' hf ?_
    have e1 : lk V 144 = lk V K := ct_flat hK gl0
    have e2 : ncl V b 144 = ncl V b K := ct_flat hK fun j h1 h2 => by rw [gl0 j h1 h2]; rfl
    refine ⟨by rw [e1]; exact hL.1, by rw [e2]; exact hL.2.1, fun j hj hLj => hL.2.2.1 j ?_ hLj, fun j q1 q2 q3 => ?_⟩
    · rcases Nat.lt_or_ge j K with h | h
      · exact h
      · rw [gl0 j h hj] at hLj; exact absurd hLj (by decide)
    · have e3 : lwc V j 144 = lwc V j K := ct_flat hK fun i h1 h2 => by rw [gl0 i h1 h2]; rfl
      have e4 : low V b j 144 = low V b j K := ct_flat hK fun i h1 h2 => by rw [gl0 i h1 h2]; rfl
      rw [e3, e4]
      exact hL.2.2.2 j q1 q2 q3
  · rw [rowF_ne (by omega), rowF_ne (by omega), up_ne_q (by omega), up_ne_q (by omega)]
  · refine ⟨?_, ?_, fun k h => by omega, fun j a b c => ?_⟩
    · rw [rowF_ne (by omega), rowF_ne (by omega), up_k (by omega), up_self]; rfl
    · rw [rowF_ne (by omega), rowF_ne (by omega), up_self]; rfl
    · have rr := rkI_rg hG a b c
      rw [rowF_ne (by omega), rowF_self, rowF_self]
      rw [if_pos (by omega), if_pos (by omega)]
      exact ⟨rfl, rfl⟩
end CL57
