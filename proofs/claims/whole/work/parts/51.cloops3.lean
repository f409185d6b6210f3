/-! ===== loops: the worst, the suspect ===== -/
/-- the worst loop below pair K, by its edge -/
noncomputable def wst (V : Vw) : Nat → Int
  | 0 => -1
  | k + 1 => if isL V k = true ∧ (wst V k = -1 ∨ lC V (wst V k) * lC V (wst V k) * lW V k < lC V k * lC V k * lW V (wst V k)) then k else wst V k
/-- a loop's number by its edge -/
def lkI (V : Vw) (k : Int) : Int := if k = -1 then -1 else lk V k.toNat
/-- the edge that most open loops share; how many; how many closed ones share it -/
noncomputable def sus (V : Vw) (lim : Int) : Nat → Int × Int × Int
  | 0 => (-1, 0, 0)
  | k + 1 => if isE V k = true ∧ ((sus V lim k).2.1 < low V lim k 144 ∨ (0 < low V lim k 144 ∧ low V lim k 144 = (sus V lim k).2.1 ∧ (lwc V k 144 : Int) - low V lim k 144 < (sus V lim k).2.2)) then
      (k, low V lim k 144, (lwc V k 144 : Int) - low V lim k 144) else sus V lim k
def rkJ (V : Vw) (k : Int) : Int := if k = -1 then -1 else rkI V k
/-- how often a mark stands in a loop -/
def cM (V : Vw) (k b : Int) : Nat → Int
  | 0 => 0
  | i + 1 => cM V k b i + (if lM V k i = b then 1 else 0)
noncomputable def lth (V : Vw) (b : Int) : Nat → Int
  | 0 => 0
  | k + 1 => lth V b k + (if isL V k = true then cM V k b (lD V k + 1) else 0)
section CL62
variable {e : Nat} {I J : IM} {Q : Post} {V : Vw} {s v a b x y : Int}
theorem ln_next {V : Vw} {N i : Nat} (h : i < lk V N) : ∃ k : Nat, k < N ∧ isL V k = true ∧ lk V k = i := ct_next h
theorem lk_gap {K K' : Nat} (hr : lk V K' = lk V K) : ∀ j : Nat, K ≤ j → j < K' → isL V j = false := by
  intro j h1 h2
  cases hE : isL V j
  · rfl
  · have a := ct_lt (isL V) h2 hE
    have b : lk V K ≤ lk V j := ct_mono _ h1
    unfold lk at *
    omega
theorem wst_flat {K K' : Nat} (h : K ≤ K') (hn : ∀ j : Nat, K ≤ j → j < K' → isL V j = false) : wst V K' = wst V K := by
  obtain ⟨d, rfl⟩ : ∃ d, K' = K + d := ⟨K' - K, by omega⟩
  induction d with
  | zero => rfl
  | succ d ih =>
    rw [show K + (d + 1) = (K + d) + 1 by omega]
    simp only [wst]
    rw [if_neg (fun q => by rw [hn (K + d) (by omega) (by omega)] at q; exact absurd q.1 (by decide)), ih (by omega) (fun j h1 h2 => hn j h1 (by omega))]
theorem wst_ok (V : Vw) : ∀ K : Nat, wst V K = -1 ∨ ∃ j : Nat, j < K ∧ wst V K = j ∧ isL V j = true := by
  intro K
  induction K with
  | zero => exact Or.inl rfl
  | succ K ih =>
    simp only [wst]
    split
    · rename_i h
      exact Or.inr ⟨K, by omega, rfl, h.1⟩
    · rcases ih with h | ⟨j, h1, h2, h3⟩
      · exact Or.inl h
      · exact Or.inr ⟨j, by omega, h2, h3⟩
theorem x_lcle {f g : Sem} {μ : Mem} (ha : -9223372036854775808 ≤ a ∧ a < 9223372036854775808) (hb : -9223372036854775808 ≤ b ∧ b < 9223372036854775808) (h1 : a ≤ b → f μ Q) (h2 : b < a → g μ Q) : br (lg_cmp (i64 a) (i64 b) ≤ 0) f g μ Q :=
  ⟨fun h => h1 (Int.not_lt.mp fun q => absurd ((lg_gt0 ha hb).mpr q) (by rw [Int32.not_lt]; exact h)), fun h => h2 ((lg_gt0 ha hb).mp (by rw [← Int32.not_le]; exact h))⟩
theorem lk_rk (V : Vw) (n : Nat) : lk V n ≤ rk V n := by
  induction n with
  | zero => exact Nat.le_refl _
  | succ n ih =>
    rw [lk_succ, rk_succ]
    by_cases h : isL V n = true
    · rw [if_pos h, if_pos (isL_E h).1]; omega
    · rw [if_neg h]; omega
theorem sp_X4_isWorse (hG : Good V) {k j : Nat} (hk : k < 144) (hj : j < 144) (hLk : isL V k = true) (hLj : isL V j = true) (h1 : L1 I V (lk V k) k) (h2 : L1 I V (lk V j) j)
    (hQ : Q (.inl (some (.int (i32 (if lC V j * lC V j * lW V k < lC V k * lC V k * lW V j then 1 else 0))))) (ME e I J)) : SX4_isWorse [.ref 191, .int (i32 (lk V k)), .int (i32 (lk V j))] (ME e I J) Q := by
  refine x_in (Nat.le_of_ble_eq_true rfl) ?_
  dsimp only [bX4_isWorse, bX4_isWorse_0]
  have k4 := lk_40 hG hk hLk
  have j4 := lk_40 hG hj hLj
  have ck := lC_bd hG (isL_E hLk).1
  have cj := lC_bd hG (isL_E hLj).1
  have wk := lW_bd hG (isL_E hLk).1
  have wj := lW_bd hG (isL_E hLj).1
  have s1 := sq_bd ck
  have s2 := sq_bd cj
  have m1 := mul_bd (a := lC V k * lC V k) (b := lW V j) (A := 620136 * 620136) (B := 1199988) (by omega) (by omega)
  have m2 := mul_bd (a := lC V j * lC V j) (b := lW V k) (A := 620136 * 620136) (B := 1199988) (by omega) (by omega)
  have f1 := h1.2.1
  have f2 := h2.2.1
  refine x_ob rfl (x_cJ (sp_X4_square k4 h1.2.2.1 ck ?_))
  refine x_gR rfl rfl (x_cI (sp_X10_cell (n := 40) rfl (by omega) (by omega) (by omega) (by omega) ?_))
  refine x_ob rfl (x_cJ (sp_X4_square j4 h2.2.2.1 cj ?_))
  refine x_gR rfl rfl (x_cI (sp_X10_cell (n := 40) rfl (by omega) (by omega) (by omega) (by omega) ?_))
  dsimp only
  rw [f1, f2, i32_long (by omega) (by omega), i32_long (by omega) (by omega), i64_mul, i64_mul]
  refine x_lcle (by omega) (by omega) (fun h => ?_) (fun h => ?_)
  · rw [if_neg (by omega)] at hQ; exact x_rZ (v := 0) (by omega) hQ
  · rw [if_pos h] at hQ; exact x_rZ (v := 1) (by omega) hQ
theorem sp_X4_worst (hG : Good V) {lim : Int} (hL : Gl I V lim 144)
    (hQ : Q (.inl (some (.int (i32 (lkI V (wst V 144)))))) (ME e I J)) : SX4_worst [.ref 191] (ME e I J) Q := by
  refine x_in (Nat.le_of_ble_eq_true rfl) ?_
  dsimp only [bX4_worst, bX4_worst_0]
  have h40 : nL V ≤ 40 := by have := nE40 hG; have := lk_rk V 144; unfold nL nE at *; omega
  have h3 : I 191 2 = nL V := hL.1
  refine x_for (nL V) (fun i av μ => ∃ K : Nat, K ≤ 144 ∧ lk V K = i ∧ av = [.ref 191, .int (i32 (lkI V (wst V K))), .int (i32 i)] ∧ μ = ME e I J) ?_ ?_ (Nat.zero_le _) ⟨0, by omega, rfl, by simp only [Int.cast_ofNat_Int, Int.natCast_add, Int.toNat_natCast, i32_add, i32_sub, i32_mul, i32_neg, i32_lit, i64_add, i64_sub, i64_mul, i64_neg, i64_lit, i64_int, wst, lkI, if_true], rfl⟩
  · rintro i av μ hi ⟨K, hK, hKi, rfl, rfl⟩ hJ
    dsimp only [bX4_worst, bX4_worst_1]
    obtain ⟨k, hk, hE, rfl⟩ := ln_next hi
    have k4 := lk_40 hG hk hE
    have hKk : K ≤ k := by
      rcases Nat.lt_or_ge k K with h | h
      · have := ct_lt (isL V) h hE
        unfold lk at hKi; omega
      · exact h
    have f1 : wst V k = wst V K := wst_flat hKk (lk_gap hKi.symm)
    rw [← f1]
    have hk1 : lk V (k + 1) = lk V k + 1 := by rw [lk_succ, if_pos hE]
    have hw : wst V (k + 1) = if isL V k = true ∧ (wst V k = -1 ∨ lC V (wst V k) * lC V (wst V k) * lW V k < lC V k * lC V k * lW V (wst V k)) then (k : Int) else wst V k := rfl
    have lkk : lkI V (k : Int) = lk V k := by unfold lkI; rw [if_neg (by omega)]; rfl
    rcases wst_ok V k with h | ⟨j, hj, hwj, hLj⟩
    · rw [h] at hw
      rw [if_pos ⟨hE, Or.inl rfl⟩] at hw
      rw [h]
      have e1 : lkI V (-1) = -1 := rfl
      rw [e1]
      (repeat' first | ((with_reducible apply x_gR); rfl; rfl) | ((with_reducible apply x_gRs hq); rfl) | ((with_reducible refine x_gI ?_ ?_); rfl; try simp only [Int.cast_ofNat_Int]) | ((with_reducible refine x_gIs hq ?_); try simp only [Int.cast_ofNat_Int]) | ((with_reducible refine x_ob ?_ ?_); rfl) | (with_reducible refine x_obs hq ?_) | (with_reducible refine x_lI ?_) | (with_reducible refine x_lJ ?_) | (with_reducible refine x_le (by omega) (by omega) (fun h => ?_) (fun h => ?_)) | (with_reducible refine x_lt (by omega) (by omega) (fun h => ?_) (fun h => ?_)) | (with_reducible refine x_eq (by omega) (by omega) (fun h => ?_) (fun h => ?_)) | (with_reducible refine x_brT ?_) | (with_reducible refine x_brF ?_) | (with_reducible refine x_rI ?_) | (with_reducible refine x_rV ?_) | (with_reducible refine x_rJ ?_) | (with_reducible refine x_rZ (by omega) ?_) | (with_reducible refine x_rO ?_) | (with_reducible refine x_thr ?_) | ((with_reducible refine x_pI ?_ ?_); rfl; try simp only [Int.cast_ofNat_Int]) | ((with_reducible refine x_pIs hq ?_); try simp only [Int.cast_ofNat_Int]) | ((with_reducible refine x_pZ ?_ (by omega) ?_); rfl; try simp only [Int.cast_ofNat_Int]) | ((with_reducible refine x_pZs hq (by omega) ?_); try simp only [Int.cast_ofNat_Int]) | (with_reducible refine x_pR ?_) | ((with_reducible apply x_aI); (first | assumption | rfl | exact (kb_st _ hq).2.1 | exact (kb_st _ hq).2.2.1 _ (by omega) (by omega) | exact (kb_st _ hq).2.2.2.1 _ (by omega) (by omega)); omega; omega; omega) | ((with_reducible apply x_sA); (first | assumption | rfl | exact (kb_st _ hq).2.1 | exact (kb_st _ hq).2.2.1 _ (by omega) (by omega) | exact (kb_st _ hq).2.2.2.1 _ (by omega) (by omega)); omega; omega; omega) | ((with_reducible apply x_aL); (first | assumption | rfl | exact (kb_st _ hq).2.1 | exact (kb_st _ hq).2.2.1 _ (by omega) (by omega) | exact (kb_st _ hq).2.2.2.1 _ (by omega) (by omega)); omega) | ((with_reducible refine x_cI (sp_X6_counts hq ?_ hG ?_ ?_ ?_ ?_)); (first | exact hq | assumption); (focus (repeat' first | assumption | exact Rst.up (by assumption) (by omega) | refine Rst.up ?_ (by omega) | refine Rwl.up ?_ (by omega) | refine Rrw.up ?_ (by omega))); omega; omega) | ((with_reducible apply x_aB); rfl; omega; omega; omega; omega) | ((with_reducible apply x_sZ); rfl; omega; omega; omega; omega) | ((with_reducible refine x_nz ?_ ?_ ?_ ?_); omega; omega; omega) | ((with_reducible refine x_nzl ?_ ?_ ?_ ?_); omega; omega; omega) | (simp (disch := omega) only [Int.cast_ofNat_Int, Int.natCast_add, Int.toNat_natCast, i32_add, i32_sub, i32_mul, i32_neg, i32_lit, i64_add, i64_sub, i64_mul, i64_neg, i64_lit, i64_int, h3, i32_long, up_self, up_q, up_k]))
      all_goals (try omega)
      exact hJ _ _ ⟨k + 1, by omega, hk1, by rw [hw, lkk]; simp only [Int.cast_ofNat_Int, Int.natCast_add, Int.toNat_natCast, i32_add, i32_sub, i32_mul, i32_neg, i32_lit, i64_add, i64_sub, i64_mul, i64_neg, i64_lit, i64_int], rfl⟩
    · have lkj : lkI V (wst V k) = lk V j := by rw [hwj]; unfold lkI; rw [if_neg (by omega)]; rfl
      have j4 := lk_40 hG (by omega : j < 144) hLj
      rw [lkj]
      rw [hwj] at hw
      (repeat' first | ((with_reducible apply x_gR); rfl; rfl) | ((with_reducible apply x_gRs hq); rfl) | ((with_reducible refine x_gI ?_ ?_); rfl; try simp only [Int.cast_ofNat_Int]) | ((with_reducible refine x_gIs hq ?_); try simp only [Int.cast_ofNat_Int]) | ((with_reducible refine x_ob ?_ ?_); rfl) | (with_reducible refine x_obs hq ?_) | (with_reducible refine x_lI ?_) | (with_reducible refine x_lJ ?_) | (with_reducible refine x_le (by omega) (by omega) (fun h => ?_) (fun h => ?_)) | (with_reducible refine x_lt (by omega) (by omega) (fun h => ?_) (fun h => ?_)) | (with_reducible refine x_eq (by omega) (by omega) (fun h => ?_) (fun h => ?_)) | (with_reducible refine x_brT ?_) | (with_reducible refine x_brF ?_) | (with_reducible refine x_rI ?_) | (with_reducible refine x_rV ?_) | (with_reducible refine x_rJ ?_) | (with_reducible refine x_rZ (by omega) ?_) | (with_reducible refine x_rO ?_) | (with_reducible refine x_thr ?_) | ((with_reducible refine x_pI ?_ ?_); rfl; try simp only [Int.cast_ofNat_Int]) | ((with_reducible refine x_pIs hq ?_); try simp only [Int.cast_ofNat_Int]) | ((with_reducible refine x_pZ ?_ (by omega) ?_); rfl; try simp only [Int.cast_ofNat_Int]) | ((with_reducible refine x_pZs hq (by omega) ?_); try simp only [Int.cast_ofNat_Int]) | (with_reducible refine x_pR ?_) | ((with_reducible apply x_aI); (first | assumption | rfl | exact (kb_st _ hq).2.1 | exact (kb_st _ hq).2.2.1 _ (by omega) (by omega) | exact (kb_st _ hq).2.2.2.1 _ (by omega) (by omega)); omega; omega; omega) | ((with_reducible apply x_sA); (first | assumption | rfl | exact (kb_st _ hq).2.1 | exact (kb_st _ hq).2.2.1 _ (by omega) (by omega) | exact (kb_st _ hq).2.2.2.1 _ (by omega) (by omega)); omega; omega; omega) | ((with_reducible apply x_aL); (first | assumption | rfl | exact (kb_st _ hq).2.1 | exact (kb_st _ hq).2.2.1 _ (by omega) (by omega) | exact (kb_st _ hq).2.2.2.1 _ (by omega) (by omega)); omega) | ((with_reducible refine x_cI (sp_X6_counts hq ?_ hG ?_ ?_ ?_ ?_)); (first | exact hq | assumption); (focus (repeat' first | assumption | exact Rst.up (by assumption) (by omega) | refine Rst.up ?_ (by omega) | refine Rwl.up ?_ (by omega) | refine Rrw.up ?_ (by omega))); omega; omega) | ((with_reducible apply x_aB); rfl; omega; omega; omega; omega) | ((with_reducible apply x_sZ); rfl; omega; omega; omega; omega) | ((with_reducible refine x_nz ?_ ?_ ?_ ?_); omega; omega; omega) | ((with_reducible refine x_nzl ?_ ?_ ?_ ?_); omega; omega; omega) | (simp (disch := omega) only [Int.cast_ofNat_Int, Int.natCast_add, Int.toNat_natCast, i32_add, i32_sub, i32_mul, i32_neg, i32_lit, i64_add, i64_sub, i64_mul, i64_neg, i64_lit, i64_int, h3, i32_long, up_self, up_q, up_k]))
      all_goals (try omega)
      refine x_cI (sp_X4_isWorse hG hk (by omega) hE hLj (hL.2.2.1 k hk hE) (hL.2.2.1 j (by omega) hLj) ?_)
      by_cases hc : lC V j * lC V j * lW V k < lC V k * lC V k * lW V j
      · rw [if_pos ⟨hE, Or.inr hc⟩] at hw
        rw [if_pos hc]
        (repeat' first | ((with_reducible apply x_gR); rfl; rfl) | ((with_reducible apply x_gRs hq); rfl) | ((with_reducible refine x_gI ?_ ?_); rfl; try simp only [Int.cast_ofNat_Int]) | ((with_reducible refine x_gIs hq ?_); try simp only [Int.cast_ofNat_Int]) | ((with_reducible refine x_ob ?_ ?_); rfl) | (with_reducible refine x_obs hq ?_) | (with_reducible refine x_lI ?_) | (with_reducible refine x_lJ ?_) | (with_reducible refine x_le (by omega) (by omega) (fun h => ?_) (fun h => ?_)) | (with_reducible refine x_lt (by omega) (by omega) (fun h => ?_) (fun h => ?_)) | (with_reducible refine x_eq (by omega) (by omega) (fun h => ?_) (fun h => ?_)) | (with_reducible refine x_brT ?_) | (with_reducible refine x_brF ?_) | (with_reducible refine x_rI ?_) | (with_reducible refine x_rV ?_) | (with_reducible refine x_rJ ?_) | (with_reducible refine x_rZ (by omega) ?_) | (with_reducible refine x_rO ?_) | (with_reducible refine x_thr ?_) | ((with_reducible refine x_pI ?_ ?_); rfl; try simp only [Int.cast_ofNat_Int]) | ((with_reducible refine x_pIs hq ?_); try simp only [Int.cast_ofNat_Int]) | ((with_reducible refine x_pZ ?_ (by omega) ?_); rfl; try simp only [Int.cast_ofNat_Int]) | ((with_reducible refine x_pZs hq (by omega) ?_); try simp only [Int.cast_ofNat_Int]) | (with_reducible refine x_pR ?_) | ((with_reducible apply x_aI); (first | assumption | rfl | exact (kb_st _ hq).2.1 | exact (kb_st _ hq).2.2.1 _ (by omega) (by omega) | exact (kb_st _ hq).2.2.2.1 _ (by omega) (by omega)); omega; omega; omega) | ((with_reducible apply x_sA); (first | assumption | rfl | exact (kb_st _ hq).2.1 | exact (kb_st _ hq).2.2.1 _ (by omega) (by omega) | exact (kb_st _ hq).2.2.2.1 _ (by omega) (by omega)); omega; omega; omega) | ((with_reducible apply x_aL); (first | assumption | rfl | exact (kb_st _ hq).2.1 | exact (kb_st _ hq).2.2.1 _ (by omega) (by omega) | exact (kb_st _ hq).2.2.2.1 _ (by omega) (by omega)); omega) | ((with_reducible refine x_cI (sp_X6_counts hq ?_ hG ?_ ?_ ?_ ?_)); (first | exact hq | assumption); (focus (repeat' first | assumption | exact Rst.up (by assumption) (by omega) | refine Rst.up ?_ (by omega) | refine Rwl.up ?_ (by omega) | refine Rrw.up ?_ (by omega))); omega; omega) | ((with_reducible apply x_aB); rfl; omega; omega; omega; omega) | ((with_reducible apply x_sZ); rfl; omega; omega; omega; omega) | ((with_reducible refine x_nz ?_ ?_ ?_ ?_); omega; omega; omega) | ((with_reducible refine x_nzl ?_ ?_ ?_ ?_); omega; omega; omega) | (simp (disch := omega) only [Int.cast_ofNat_Int, Int.natCast_add, Int.toNat_natCast, i32_add, i32_sub, i32_mul, i32_neg, i32_lit, i64_add, i64_sub, i64_mul, i64_neg, i64_lit, i64_int, i32_long, up_self, up_q, up_k]))
        all_goals (try omega)
        exact hJ _ _ ⟨k + 1, by omega, hk1, by rw [hw, lkk]; simp only [Int.cast_ofNat_Int, Int.natCast_add, Int.toNat_natCast, i32_add, i32_sub, i32_mul, i32_neg, i32_lit, i64_add, i64_sub, i64_mul, i64_neg, i64_lit, i64_int], rfl⟩
      · rw [if_neg (fun q => by omega), ← hwj] at hw
        rw [if_neg hc]
        (repeat' first | ((with_reducible apply x_gR); rfl; rfl) | ((with_reducible apply x_gRs hq); rfl) | ((with_reducible refine x_gI ?_ ?_); rfl; try simp only [Int.cast_ofNat_Int]) | ((with_reducible refine x_gIs hq ?_); try simp only [Int.cast_ofNat_Int]) | ((with_reducible refine x_ob ?_ ?_); rfl) | (with_reducible refine x_obs hq ?_) | (with_reducible refine x_lI ?_) | (with_reducible refine x_lJ ?_) | (with_reducible refine x_le (by omega) (by omega) (fun h => ?_) (fun h => ?_)) | (with_reducible refine x_lt (by omega) (by omega) (fun h => ?_) (fun h => ?_)) | (with_reducible refine x_eq (by omega) (by omega) (fun h => ?_) (fun h => ?_)) | (with_reducible refine x_brT ?_) | (with_reducible refine x_brF ?_) | (with_reducible refine x_rI ?_) | (with_reducible refine x_rV ?_) | (with_reducible refine x_rJ ?_) | (with_reducible refine x_rZ (by omega) ?_) | (with_reducible refine x_rO ?_) | (with_reducible refine x_thr ?_) | ((with_reducible refine x_pI ?_ ?_); rfl; try simp only [Int.cast_ofNat_Int]) | ((with_reducible refine x_pIs hq ?_); try simp only [Int.cast_ofNat_Int]) | ((with_reducible refine x_pZ ?_ (by omega) ?_); rfl; try simp only [Int.cast_ofNat_Int]) | ((with_reducible refine x_pZs hq (by omega) ?_); try simp only [Int.cast_ofNat_Int]) | (with_reducible refine x_pR ?_) | ((with_reducible apply x_aI); (first | assumption | rfl | exact (kb_st _ hq).2.1 | exact (kb_st _ hq).2.2.1 _ (by omega) (by omega) | exact (kb_st _ hq).2.2.2.1 _ (by omega) (by omega)); omega; omega; omega) | ((with_reducible apply x_sA); (first | assumption | rfl | exact (kb_st _ hq).2.1 | exact (kb_st _ hq).2.2.1 _ (by omega) (by omega) | exact (kb_st _ hq).2.2.2.1 _ (by omega) (by omega)); omega; omega; omega) | ((with_reducible apply x_aL); (first | assumption | rfl | exact (kb_st _ hq).2.1 | exact (kb_st _ hq).2.2.1 _ (by omega) (by omega) | exact (kb_st _ hq).2.2.2.1 _ (by omega) (by omega)); omega) | ((with_reducible refine x_cI (sp_X6_counts hq ?_ hG ?_ ?_ ?_ ?_)); (first | exact hq | assumption); (focus (repeat' first | assumption | exact Rst.up (by assumption) (by omega) | refine Rst.up ?_ (by omega) | refine Rwl.up ?_ (by omega) | refine Rrw.up ?_ (by omega))); omega; omega) | ((with_reducible apply x_aB); rfl; omega; omega; omega; omega) | ((with_reducible apply x_sZ); rfl; omega; omega; omega; omega) | ((with_reducible refine x_nz ?_ ?_ ?_ ?_); omega; omega; omega) | ((with_reducible refine x_nzl ?_ ?_ ?_ ?_); omega; omega; omega) | (simp (disch := omega) only [Int.cast_ofNat_Int, Int.natCast_add, Int.toNat_natCast, i32_add, i32_sub, i32_mul, i32_neg, i32_lit, i64_add, i64_sub, i64_mul, i64_neg, i64_lit, i64_int, i32_long, up_self, up_q, up_k]))
        all_goals (try omega)
        exact hJ _ _ ⟨k + 1, by omega, hk1, by rw [hw, lkj]; simp only [Int.cast_ofNat_Int, Int.natCast_add, Int.toNat_natCast, i32_add, i32_sub, i32_mul, i32_neg, i32_lit, i64_add, i64_sub, i64_mul, i64_neg, i64_lit, i64_int], rfl⟩
  · rintro av μ ⟨K, hK, hKi, rfl, rfl⟩
    dsimp only [bX4_worst, bX4_worst_1]
    have f1 : wst V 144 = wst V K := wst_flat hK (lk_gap hKi.symm)
    rw [f1] at hQ
    (repeat' first | ((with_reducible apply x_gR); rfl; rfl) | ((with_reducible apply x_gRs hq); rfl) | ((with_reducible refine x_gI ?_ ?_); rfl; try simp only [Int.cast_ofNat_Int]) | ((with_reducible refine x_gIs hq ?_); try simp only [Int.cast_ofNat_Int]) | ((with_reducible refine x_ob ?_ ?_); rfl) | (with_reducible refine x_obs hq ?_) | (with_reducible refine x_lI ?_) | (with_reducible refine x_lJ ?_) | (with_reducible refine x_le (by omega) (by omega) (fun h => ?_) (fun h => ?_)) | (with_reducible refine x_lt (by omega) (by omega) (fun h => ?_) (fun h => ?_)) | (with_reducible refine x_eq (by omega) (by omega) (fun h => ?_) (fun h => ?_)) | (with_reducible refine x_brT ?_) | (with_reducible refine x_brF ?_) | (with_reducible refine x_rI ?_) | (with_reducible refine x_rV ?_) | (with_reducible refine x_rJ ?_) | (with_reducible refine x_rZ (by omega) ?_) | (with_reducible refine x_rO ?_) | (with_reducible refine x_thr ?_) | ((with_reducible refine x_pI ?_ ?_); rfl; try simp only [Int.cast_ofNat_Int]) | ((with_reducible refine x_pIs hq ?_); try simp only [Int.cast_ofNat_Int]) | ((with_reducible refine x_pZ ?_ (by omega) ?_); rfl; try simp only [Int.cast_ofNat_Int]) | ((with_reducible refine x_pZs hq (by omega) ?_); try simp only [Int.cast_ofNat_Int]) | (with_reducible refine x_pR ?_) | ((with_reducible apply x_aI); (first | assumption | rfl | exact (kb_st _ hq).2.1 | exact (kb_st _ hq).2.2.1 _ (by omega) (by omega) | exact (kb_st _ hq).2.2.2.1 _ (by omega) (by omega)); omega; omega; omega) | ((with_reducible apply x_sA); (first | assumption | rfl | exact (kb_st _ hq).2.1 | exact (kb_st _ hq).2.2.1 _ (by omega) (by omega) | exact (kb_st _ hq).2.2.2.1 _ (by omega) (by omega)); omega; omega; omega) | ((with_reducible apply x_aL); (first | assumption | rfl | exact (kb_st _ hq).2.1 | exact (kb_st _ hq).2.2.1 _ (by omega) (by omega) | exact (kb_st _ hq).2.2.2.1 _ (by omega) (by omega)); omega) | ((with_reducible refine x_cI (sp_X6_counts hq ?_ hG ?_ ?_ ?_ ?_)); (first | exact hq | assumption); (focus (repeat' first | assumption | exact Rst.up (by assumption) (by omega) | refine Rst.up ?_ (by omega) | refine Rwl.up ?_ (by omega) | refine Rrw.up ?_ (by omega))); omega; omega) | ((with_reducible apply x_aB); rfl; omega; omega; omega; omega) | ((with_reducible apply x_sZ); rfl; omega; omega; omega; omega) | ((with_reducible refine x_nz ?_ ?_ ?_ ?_); omega; omega; omega) | ((with_reducible refine x_nzl ?_ ?_ ?_ ?_); omega; omega; omega) | (simp (disch := omega) only [Int.cast_ofNat_Int, Int.natCast_add, Int.toNat_natCast, i32_add, i32_sub, i32_mul, i32_neg, i32_lit, i64_add, i64_sub, i64_mul, i64_neg, i64_lit, i64_int, h3, i32_long, up_self, up_q, up_k]))
    all_goals (first | omega | exact hQ)
theorem sus_flat {lim : Int} {K K' : Nat} (h : K ≤ K') (hn : ∀ j : Nat, K ≤ j → j < K' → isE V j = false) : sus V lim K' = sus V lim K := by
  obtain ⟨d, rfl⟩ : ∃ d, K' = K + d := ⟨K' - K, by omega⟩
  induction d with
  | zero => rfl
  | succ d ih =>
    rw [show K + (d + 1) = (K + d) + 1 by omega]
    simp only [sus]
    rw [if_neg (fun q => by rw [hn (K + d) (by omega) (by omega)] at q; exact absurd q.1 (by decide)), ih (by omega) (fun j h1 h2 => hn j h1 (by omega))]
theorem sus_ok (V : Vw) (lim : Int) : ∀ K : Nat, K ≤ 144 → (-1 ≤ (sus V lim K).1 ∧ (sus V lim K).1 < 144) ∧ (0 ≤ (sus V lim K).2.1 ∧ (sus V lim K).2.1 ≤ 144) ∧ (-144 ≤ (sus V lim K).2.2 ∧ (sus V lim K).2.2 ≤ 144) ∧ (0 ≤ (sus V lim K).1 → isE V (sus V lim K).1 = true) := by
  intro K
  induction K with
  | zero => intro _; simp only [sus]; omega
  | succ K ih =>
    intro hK
    have a : low V lim K 144 ≤ 144 := ct_le _ _
    have b : lwc V K 144 ≤ 144 := ct_le _ _
    simp only [sus]
    split
    · rename_i h
      dsimp only
      exact ⟨by omega, by omega, by omega, fun _ => h.1⟩
    · exact ih (by omega)
theorem rkJ_bd (hG : Good V) {k : Int} (h : -1 ≤ k ∧ k < 144) (hE : 0 ≤ k → isE V k = true) : -1 ≤ rkJ V k ∧ rkJ V k < 40 := by
  unfold rkJ
  split
  · omega
  · have := rkI_rg hG (k := k) (by omega) h.2 (hE (by omega))
    omega
theorem sp_X4_suspectEdge (hG : Good V) (hM : Md I V) {lim : Int} (hL : Gl I V lim 144)
    (hQ : Q (.inl (some (.int (i32 (rkJ V (sus V lim 144).1))))) (ME e I J)) : SX4_suspectEdge [.ref 191] (ME e I J) Q := by
  refine x_in (Nat.le_of_ble_eq_true rfl) ?_
  dsimp only [bX4_suspectEdge, bX4_suspectEdge_0]
  have h40 := nE40 hG
  have h3 := hM.2.2.1
  refine x_for (nE V) (fun i av μ => ∃ K : Nat, K ≤ 144 ∧ rk V K = i ∧ av = [.ref 191, .int (i32 (rkJ V (sus V lim K).1)), .int (i32 (sus V lim K).2.1), .int (i32 (sus V lim K).2.2), .int (i32 i)] ∧ μ = ME e I J) ?_ ?_ (Nat.zero_le _) ⟨0, by omega, rfl, by simp only [Int.cast_ofNat_Int, Int.natCast_add, Int.toNat_natCast, i32_add, i32_sub, i32_mul, i32_neg, i32_lit, i64_add, i64_sub, i64_mul, i64_neg, i64_lit, i64_int, sus, rkJ, if_true], rfl⟩
  · rintro i av μ hi ⟨K, hK, hKi, rfl, rfl⟩ hJ
    dsimp only [bX4_suspectEdge, bX4_suspectEdge_1]
    obtain ⟨k, hk, hE, rfl⟩ := rk_next hi
    have hKk : K ≤ k := by
      rcases Nat.lt_or_ge k K with h | h
      · have := ct_lt (isE V) h hE
        unfold rk at hKi; omega
      · exact h
    have f1 : sus V lim k = sus V lim K := sus_flat hKk (rk_gap hKi.symm)
    rw [← f1]
    have hk1 : rk V (k + 1) = rk V k + 1 := by rw [rk_succ, if_pos hE]
    have ok := sus_ok V lim k (by omega)
    have rb1 := rkJ_bd hG ok.1 ok.2.2.2
    have w := hL.2.2.2 (k : Int) (by omega) (by omega) hE
    rw [rkI_nat] at w
    have w1 := w.1
    have w2 := w.2
    have a : low V lim k 144 ≤ 144 := ct_le _ _
    have b : lwc V k 144 ≤ 144 := ct_le _ _
    have r4 := rk_lt40 hG hk hE
    have hs : sus V lim (k + 1) = if isE V k = true ∧ ((sus V lim k).2.1 < low V lim k 144 ∨ (0 < low V lim k 144 ∧ low V lim k 144 = (sus V lim k).2.1 ∧ (lwc V k 144 : Int) - low V lim k 144 < (sus V lim k).2.2)) then
      ((k : Int), (low V lim k 144 : Int), (lwc V k 144 : Int) - low V lim k 144) else sus V lim k := rfl
    have rkk : rkJ V (k : Int) = rk V k := by unfold rkJ; rw [if_neg (by omega), rkI_nat]
    (repeat' first | ((with_reducible apply x_gR); rfl; rfl) | ((with_reducible apply x_gRs hq); rfl) | ((with_reducible refine x_gI ?_ ?_); rfl; try simp only [Int.cast_ofNat_Int]) | ((with_reducible refine x_gIs hq ?_); try simp only [Int.cast_ofNat_Int]) | ((with_reducible refine x_ob ?_ ?_); rfl) | (with_reducible refine x_obs hq ?_) | (with_reducible refine x_lI ?_) | (with_reducible refine x_lJ ?_) | (with_reducible refine x_le (by omega) (by omega) (fun h => ?_) (fun h => ?_)) | (with_reducible refine x_lt (by omega) (by omega) (fun h => ?_) (fun h => ?_)) | (with_reducible refine x_eq (by omega) (by omega) (fun h => ?_) (fun h => ?_)) | (with_reducible refine x_brT ?_) | (with_reducible refine x_brF ?_) | (with_reducible refine x_rI ?_) | (with_reducible refine x_rV ?_) | (with_reducible refine x_rJ ?_) | (with_reducible refine x_rZ (by omega) ?_) | (with_reducible refine x_rO ?_) | (with_reducible refine x_thr ?_) | ((with_reducible refine x_pI ?_ ?_); rfl; try simp only [Int.cast_ofNat_Int]) | ((with_reducible refine x_pIs hq ?_); try simp only [Int.cast_ofNat_Int]) | ((with_reducible refine x_pZ ?_ (by omega) ?_); rfl; try simp only [Int.cast_ofNat_Int]) | ((with_reducible refine x_pZs hq (by omega) ?_); try simp only [Int.cast_ofNat_Int]) | (with_reducible refine x_pR ?_) | ((with_reducible apply x_aI); (first | assumption | rfl | exact (kb_st _ hq).2.1 | exact (kb_st _ hq).2.2.1 _ (by omega) (by omega) | exact (kb_st _ hq).2.2.2.1 _ (by omega) (by omega)); omega; omega; omega) | ((with_reducible apply x_sA); (first | assumption | rfl | exact (kb_st _ hq).2.1 | exact (kb_st _ hq).2.2.1 _ (by omega) (by omega) | exact (kb_st _ hq).2.2.2.1 _ (by omega) (by omega)); omega; omega; omega) | ((with_reducible apply x_aL); (first | assumption | rfl | exact (kb_st _ hq).2.1 | exact (kb_st _ hq).2.2.1 _ (by omega) (by omega) | exact (kb_st _ hq).2.2.2.1 _ (by omega) (by omega)); omega) | ((with_reducible apply x_cI); (with_reducible apply sp_X10_cell); (first | assumption | rfl | exact (kb_st _ hq).2.1 | exact (kb_st _ hq).2.2.1 _ (by omega) (by omega) | exact (kb_st _ hq).2.2.2.1 _ (by omega) (by omega)); omega; omega; omega; omega) | ((with_reducible apply x_aB); rfl; omega; omega; omega; omega) | ((with_reducible apply x_sZ); rfl; omega; omega; omega; omega) | ((with_reducible refine x_nz ?_ ?_ ?_ ?_); omega; omega; omega) | ((with_reducible refine x_nzl ?_ ?_ ?_ ?_); omega; omega; omega) | (simp (disch := omega) only [Int.cast_ofNat_Int, Int.natCast_add, Int.toNat_natCast, i32_add, i32_sub, i32_mul, i32_neg, i32_lit, i64_add, i64_sub, i64_mul, i64_neg, i64_lit, i64_int, h3, w1, w2, i32_long, up_self, up_q, up_k]))
    all_goals (try omega)
    all_goals first
      | exact hJ _ _ ⟨k + 1, by omega, hk1, by rw [hs, if_pos ⟨hE, Or.inl (by omega)⟩]; dsimp only; rw [rkk]; simp only [Int.cast_ofNat_Int, Int.natCast_add, Int.toNat_natCast, i32_add, i32_sub, i32_mul, i32_neg, i32_lit, i64_add, i64_sub, i64_mul, i64_neg, i64_lit, i64_int], rfl⟩
      | exact hJ _ _ ⟨k + 1, by omega, hk1, by rw [hs, if_pos ⟨hE, Or.inr ⟨by omega, by omega, by omega⟩⟩]; dsimp only; rw [rkk]; simp only [Int.cast_ofNat_Int, Int.natCast_add, Int.toNat_natCast, i32_add, i32_sub, i32_mul, i32_neg, i32_lit, i64_add, i64_sub, i64_mul, i64_neg, i64_lit, i64_int], rfl⟩
      | exact hJ _ _ ⟨k + 1, by omega, hk1, by rw [hs, if_neg (fun q => by omega)]; simp only [Int.cast_ofNat_Int, Int.natCast_add, Int.toNat_natCast, i32_add, i32_sub, i32_mul, i32_neg, i32_lit, i64_add, i64_sub, i64_mul, i64_neg, i64_lit, i64_int], rfl⟩
  · rintro av μ ⟨K, hK, hKi, rfl, rfl⟩
    dsimp only [bX4_suspectEdge, bX4_suspectEdge_1]
    have f1 : sus V lim 144 = sus V lim K := sus_flat hK (rk_gap hKi.symm)
    rw [f1] at hQ
    (repeat' first | ((with_reducible apply x_gR); rfl; rfl) | ((with_reducible apply x_gRs hq); rfl) | ((with_reducible refine x_gI ?_ ?_); rfl; try simp only [Int.cast_ofNat_Int]) | ((with_reducible refine x_gIs hq ?_); try simp only [Int.cast_ofNat_Int]) | ((with_reducible refine x_ob ?_ ?_); rfl) | (with_reducible refine x_obs hq ?_) | (with_reducible refine x_lI ?_) | (with_reducible refine x_lJ ?_) | (with_reducible refine x_le (by omega) (by omega) (fun h => ?_) (fun h => ?_)) | (with_reducible refine x_lt (by omega) (by omega) (fun h => ?_) (fun h => ?_)) | (with_reducible refine x_eq (by omega) (by omega) (fun h => ?_) (fun h => ?_)) | (with_reducible refine x_brT ?_) | (with_reducible refine x_brF ?_) | (with_reducible refine x_rI ?_) | (with_reducible refine x_rV ?_) | (with_reducible refine x_rJ ?_) | (with_reducible refine x_rZ (by omega) ?_) | (with_reducible refine x_rO ?_) | (with_reducible refine x_thr ?_) | ((with_reducible refine x_pI ?_ ?_); rfl; try simp only [Int.cast_ofNat_Int]) | ((with_reducible refine x_pIs hq ?_); try simp only [Int.cast_ofNat_Int]) | ((with_reducible refine x_pZ ?_ (by omega) ?_); rfl; try simp only [Int.cast_ofNat_Int]) | ((with_reducible refine x_pZs hq (by omega) ?_); try simp only [Int.cast_ofNat_Int]) | (with_reducible refine x_pR ?_) | ((with_reducible apply x_aI); (first | assumption | rfl | exact (kb_st _ hq).2.1 | exact (kb_st _ hq).2.2.1 _ (by omega) (by omega) | exact (kb_st _ hq).2.2.2.1 _ (by omega) (by omega)); omega; omega; omega) | ((with_reducible apply x_sA); (first | assumption | rfl | exact (kb_st _ hq).2.1 | exact (kb_st _ hq).2.2.1 _ (by omega) (by omega) | exact (kb_st _ hq).2.2.2.1 _ (by omega) (by omega)); omega; omega; omega) | ((with_reducible apply x_aL); (first | assumption | rfl | exact (kb_st _ hq).2.1 | exact (kb_st _ hq).2.2.1 _ (by omega) (by omega) | exact (kb_st _ hq).2.2.2.1 _ (by omega) (by omega)); omega) | ((with_reducible refine x_cI (sp_X6_counts hq ?_ hG ?_ ?_ ?_ ?_)); (first | exact hq | assumption); (focus (repeat' first | assumption | exact Rst.up (by assumption) (by omega) | refine Rst.up ?_ (by omega) | refine Rwl.up ?_ (by omega) | refine Rrw.up ?_ (by omega))); omega; omega) | ((with_reducible apply x_cI); (with_reducible apply sp_X10_cell); (first | assumption | rfl | exact (kb_st _ hq).2.1 | exact (kb_st _ hq).2.2.1 _ (by omega) (by omega) | exact (kb_st _ hq).2.2.2.1 _ (by omega) (by omega)); omega; omega; omega; omega) | ((with_reducible apply x_aB); rfl; omega; omega; omega; omega) | ((with_reducible apply x_sZ); rfl; omega; omega; omega; omega) | ((with_reducible refine x_nz ?_ ?_ ?_ ?_); omega; omega; omega) | ((with_reducible refine x_nzl ?_ ?_ ?_ ?_); omega; omega; omega) | (simp (disch := omega) only [Int.cast_ofNat_Int, Int.natCast_add, Int.toNat_natCast, i32_add, i32_sub, i32_mul, i32_neg, i32_lit, i64_add, i64_sub, i64_mul, i64_neg, i64_lit, i64_int, h3, i32_long, up_self, up_q, up_k]))
    all_goals (first | omega | exact hQ)
theorem lth_flat {K K' : Nat} (h : K ≤ K') (hn : ∀ j : Nat, K ≤ j → j < K' → isL V j = false) : lth V b K' = lth V b K := by
  obtain ⟨d, rfl⟩ : ∃ d, K' = K + d := ⟨K' - K, by omega⟩
  induction d with
  | zero => rfl
  | succ d ih =>
    rw [show K + (d + 1) = (K + d) + 1 by omega]
    simp only [lth]
    rw [if_neg (fun q => by rw [hn (K + d) (by omega) (by omega)] at q; exact absurd q (by decide)), ih (by omega) (fun j h1 h2 => hn j h1 (by omega))]
    omega
theorem cM_bd (k b : Int) : ∀ n : Nat, 0 ≤ cM V k b n ∧ cM V k b n ≤ n := by
  intro n
  induction n with
  | zero => exact ⟨Int.le_refl _, Int.le_refl _⟩
  | succ n ih => simp only [cM]; split <;> omega
theorem lth_bd (hG : Good V) (b : Int) : ∀ n : Nat, 0 ≤ lth V b n ∧ lth V b n ≤ n * 12 := by
  intro n
  induction n with
  | zero => exact ⟨Int.le_refl _, Int.le_refl _⟩
  | succ n ih =>
    simp only [lth]
    split
    · rename_i h
      have d := lD_ok hG (isL_E h).1
      have c := cM_bd (V := V) (n : Int) b (lD V n + 1)
      omega
    · omega
theorem sp_X4_loopsThrough (hG : Good V) {lim : Int} (hL : Gl I V lim 144) (hb : -1000 ≤ b ∧ b ≤ 1000)
    (hQ : Q (.inl (some (.int (i32 (lth V b 144))))) (ME e I J)) : SX4_loopsThrough [.ref 191, .int (i32 b)] (ME e I J) Q := by
  refine x_in (Nat.le_of_ble_eq_true rfl) ?_
  dsimp only [bX4_loopsThrough, bX4_loopsThrough_0]
  have h3 : I 191 2 = nL V := hL.1
  have h40 : nL V ≤ 40 := by have := nE40 hG; have := lk_rk V 144; unfold nL nE at *; omega
  refine x_for (nL V) (fun i av μ => ∃ K : Nat, K ≤ 144 ∧ lk V K = i ∧ av = [.ref 191, .int (i32 b), .int (i32 (lth V b K)), .int (i32 i)] ∧ μ = ME e I J) ?_ ?_ (Nat.zero_le _) ⟨0, by omega, rfl, by simp only [Int.cast_ofNat_Int, Int.natCast_add, Int.toNat_natCast, i32_add, i32_sub, i32_mul, i32_neg, i32_lit, i64_add, i64_sub, i64_mul, i64_neg, i64_lit, i64_int, lth], rfl⟩
  · rintro i av μ hi ⟨K, hK, hKi, rfl, rfl⟩ hJ
    dsimp only [bX4_loopsThrough, bX4_loopsThrough_1]
    obtain ⟨k, hk, hE, rfl⟩ := ln_next hi
    have k4 := lk_40 hG hk hE
    have hKk : K ≤ k := by
      rcases Nat.lt_or_ge k K with h | h
      · have := ct_lt (isL V) h hE
        unfold lk at hKi; omega
      · exact h
    have f1 : lth V b k = lth V b K := lth_flat hKk (lk_gap hKi.symm)
    rw [← f1]
    have hk1 : lk V (k + 1) = lk V k + 1 := by rw [lk_succ, if_pos hE]
    have hs : lth V b (k + 1) = lth V b k + (if isL V k = true then cM V k b (lD V k + 1) else 0) := rfl
    rw [if_pos hE] at hs
    have l1 := hL.2.2.1 k hk hE
    have g1 := l1.1
    have d := lD_ok hG (isL_E hE).1
    have tb := lth_bd hG b k
    have inner : fx bX4_loopsThrough 2 [.ref 191, .int (i32 b), .int (i32 (lth V b k)), .int (i32 (lk V k)), .int (i32 ((lD V k : Int) + 1)), .int (i32 0)] (ME e I J) Q := by
      refine x_forD (lD V k + 1) (fun i => [.ref 191, .int (i32 b), .int (i32 (lth V b k + cM V k b i)), .int (i32 (lk V k)), .int (i32 ((lD V k : Int) + 1)), .int (i32 i)]) (fun i => ME e I J) ?_ ?_ (Nat.zero_le _) (by simp only [Int.cast_ofNat_Int, Int.natCast_add, Int.toNat_natCast, i32_add, i32_sub, i32_mul, i32_neg, i32_lit, i64_add, i64_sub, i64_mul, i64_neg, i64_lit, i64_int, cM, Int.add_zero]) rfl
      · intro i hi2 hJ2
        dsimp only [bX4_loopsThrough, bX4_loopsThrough_2]
        have m := l1.2.2.2 i (by omega)
        have mm := lM_ok hG (isL_E hE).1 (i := i) (by omega)
        have mb := cM_bd (V := V) (k : Int) b i
        have m0 : 0 ≤ lM V k i ∧ lM V k i < 12 := mm
        refine x_le (by omega) (by omega) (fun h => ?_) (fun h => ?_)
        · omega
        refine x_ob rfl (x_cI (sp_X4_markAt k4 g1 (by omega) (by omega) ?_))
        rw [if_pos (by omega), m]
        have hc : cM V k b (i + 1) = cM V k b i + (if lM V k i = b then 1 else 0) := rfl
        (repeat' first | ((with_reducible apply x_gR); rfl; rfl) | ((with_reducible apply x_gRs hq); rfl) | ((with_reducible refine x_gI ?_ ?_); rfl; try simp only [Int.cast_ofNat_Int]) | ((with_reducible refine x_gIs hq ?_); try simp only [Int.cast_ofNat_Int]) | ((with_reducible refine x_ob ?_ ?_); rfl) | (with_reducible refine x_obs hq ?_) | (with_reducible refine x_lI ?_) | (with_reducible refine x_lJ ?_) | (with_reducible refine x_le (by omega) (by omega) (fun h => ?_) (fun h => ?_)) | (with_reducible refine x_lt (by omega) (by omega) (fun h => ?_) (fun h => ?_)) | (with_reducible refine x_eq (by omega) (by omega) (fun h => ?_) (fun h => ?_)) | (with_reducible refine x_brT ?_) | (with_reducible refine x_brF ?_) | (with_reducible refine x_rI ?_) | (with_reducible refine x_rV ?_) | (with_reducible refine x_rJ ?_) | (with_reducible refine x_rZ (by omega) ?_) | (with_reducible refine x_rO ?_) | (with_reducible refine x_thr ?_) | ((with_reducible refine x_pI ?_ ?_); rfl; try simp only [Int.cast_ofNat_Int]) | ((with_reducible refine x_pIs hq ?_); try simp only [Int.cast_ofNat_Int]) | ((with_reducible refine x_pZ ?_ (by omega) ?_); rfl; try simp only [Int.cast_ofNat_Int]) | ((with_reducible refine x_pZs hq (by omega) ?_); try simp only [Int.cast_ofNat_Int]) | (with_reducible refine x_pR ?_) | ((with_reducible apply x_aI); (first | assumption | rfl | exact (kb_st _ hq).2.1 | exact (kb_st _ hq).2.2.1 _ (by omega) (by omega) | exact (kb_st _ hq).2.2.2.1 _ (by omega) (by omega)); omega; omega; omega) | ((with_reducible apply x_sA); (first | assumption | rfl | exact (kb_st _ hq).2.1 | exact (kb_st _ hq).2.2.1 _ (by omega) (by omega) | exact (kb_st _ hq).2.2.2.1 _ (by omega) (by omega)); omega; omega; omega) | ((with_reducible apply x_aL); (first | assumption | rfl | exact (kb_st _ hq).2.1 | exact (kb_st _ hq).2.2.1 _ (by omega) (by omega) | exact (kb_st _ hq).2.2.2.1 _ (by omega) (by omega)); omega) | ((with_reducible refine x_cI (sp_X6_counts hq ?_ hG ?_ ?_ ?_ ?_)); (first | exact hq | assumption); (focus (repeat' first | assumption | exact Rst.up (by assumption) (by omega) | refine Rst.up ?_ (by omega) | refine Rwl.up ?_ (by omega) | refine Rrw.up ?_ (by omega))); omega; omega) | ((with_reducible apply x_cI); (with_reducible apply sp_X10_cell); (first | assumption | rfl | exact (kb_st _ hq).2.1 | exact (kb_st _ hq).2.2.1 _ (by omega) (by omega) | exact (kb_st _ hq).2.2.2.1 _ (by omega) (by omega)); omega; omega; omega; omega) | ((with_reducible apply x_cI); (with_reducible apply sp_X4_markAt); omega; assumption; omega; omega) | ((with_reducible apply x_aB); rfl; omega; omega; omega; omega) | ((with_reducible apply x_sZ); rfl; omega; omega; omega; omega) | ((with_reducible refine x_nz ?_ ?_ ?_ ?_); omega; omega; omega) | ((with_reducible refine x_nzl ?_ ?_ ?_ ?_); omega; omega; omega) | (simp (disch := omega) only [Int.cast_ofNat_Int, Int.natCast_add, Int.toNat_natCast, i32_add, i32_sub, i32_mul, i32_neg, i32_lit, i64_add, i64_sub, i64_mul, i64_neg, i64_lit, i64_int, i32_long, up_self, up_q, up_k]))
        all_goals (try omega)
        · rw [hc, if_pos (by assumption)] at hJ2; simpa only [Int.cast_ofNat_Int, Int.natCast_add, Int.toNat_natCast, i32_add, i32_sub, i32_mul, i32_neg, i32_lit, i64_add, i64_sub, i64_mul, i64_neg, i64_lit, i64_int, Int.add_assoc] using hJ2
        · rw [hc, if_neg (by assumption), Int.add_zero] at hJ2; simpa only [Int.cast_ofNat_Int, Int.natCast_add, Int.toNat_natCast, i32_add, i32_sub, i32_mul, i32_neg, i32_lit, i64_add, i64_sub, i64_mul, i64_neg, i64_lit, i64_int] using hJ2
      · dsimp only [bX4_loopsThrough, bX4_loopsThrough_2]
        (repeat' first | ((with_reducible apply x_gR); rfl; rfl) | ((with_reducible apply x_gRs hq); rfl) | ((with_reducible refine x_gI ?_ ?_); rfl; try simp only [Int.cast_ofNat_Int]) | ((with_reducible refine x_gIs hq ?_); try simp only [Int.cast_ofNat_Int]) | ((with_reducible refine x_ob ?_ ?_); rfl) | (with_reducible refine x_obs hq ?_) | (with_reducible refine x_lI ?_) | (with_reducible refine x_lJ ?_) | (with_reducible refine x_le (by omega) (by omega) (fun h => ?_) (fun h => ?_)) | (with_reducible refine x_lt (by omega) (by omega) (fun h => ?_) (fun h => ?_)) | (with_reducible refine x_eq (by omega) (by omega) (fun h => ?_) (fun h => ?_)) | (with_reducible refine x_brT ?_) | (with_reducible refine x_brF ?_) | (with_reducible refine x_rI ?_) | (with_reducible refine x_rV ?_) | (with_reducible refine x_rJ ?_) | (with_reducible refine x_rZ (by omega) ?_) | (with_reducible refine x_rO ?_) | (with_reducible refine x_thr ?_) | ((with_reducible refine x_pI ?_ ?_); rfl; try simp only [Int.cast_ofNat_Int]) | ((with_reducible refine x_pIs hq ?_); try simp only [Int.cast_ofNat_Int]) | ((with_reducible refine x_pZ ?_ (by omega) ?_); rfl; try simp only [Int.cast_ofNat_Int]) | ((with_reducible refine x_pZs hq (by omega) ?_); try simp only [Int.cast_ofNat_Int]) | (with_reducible refine x_pR ?_) | ((with_reducible apply x_aI); (first | assumption | rfl | exact (kb_st _ hq).2.1 | exact (kb_st _ hq).2.2.1 _ (by omega) (by omega) | exact (kb_st _ hq).2.2.2.1 _ (by omega) (by omega)); omega; omega; omega) | ((with_reducible apply x_sA); (first | assumption | rfl | exact (kb_st _ hq).2.1 | exact (kb_st _ hq).2.2.1 _ (by omega) (by omega) | exact (kb_st _ hq).2.2.2.1 _ (by omega) (by omega)); omega; omega; omega) | ((with_reducible apply x_aL); (first | assumption | rfl | exact (kb_st _ hq).2.1 | exact (kb_st _ hq).2.2.1 _ (by omega) (by omega) | exact (kb_st _ hq).2.2.2.1 _ (by omega) (by omega)); omega) | ((with_reducible refine x_cI (sp_X6_counts hq ?_ hG ?_ ?_ ?_ ?_)); (first | exact hq | assumption); (focus (repeat' first | assumption | exact Rst.up (by assumption) (by omega) | refine Rst.up ?_ (by omega) | refine Rwl.up ?_ (by omega) | refine Rrw.up ?_ (by omega))); omega; omega) | ((with_reducible apply x_cI); (with_reducible apply sp_X10_cell); (first | assumption | rfl | exact (kb_st _ hq).2.1 | exact (kb_st _ hq).2.2.1 _ (by omega) (by omega) | exact (kb_st _ hq).2.2.2.1 _ (by omega) (by omega)); omega; omega; omega; omega) | ((with_reducible apply x_cI); (with_reducible apply sp_X4_markAt); omega; assumption; omega; omega) | ((with_reducible apply x_aB); rfl; omega; omega; omega; omega) | ((with_reducible apply x_sZ); rfl; omega; omega; omega; omega) | ((with_reducible refine x_nz ?_ ?_ ?_ ?_); omega; omega; omega) | ((with_reducible refine x_nzl ?_ ?_ ?_ ?_); omega; omega; omega) | (simp (disch := omega) only [Int.cast_ofNat_Int, Int.natCast_add, Int.toNat_natCast, i32_add, i32_sub, i32_mul, i32_neg, i32_lit, i64_add, i64_sub, i64_mul, i64_neg, i64_lit, i64_int, i32_long, up_self, up_q, up_k]))
        all_goals (try omega)
        exact hJ _ _ ⟨k + 1, by omega, hk1, by rw [hs]; simp only [Int.cast_ofNat_Int, Int.natCast_add, Int.toNat_natCast, i32_add, i32_sub, i32_mul, i32_neg, i32_lit, i64_add, i64_sub, i64_mul, i64_neg, i64_lit, i64_int], rfl⟩
    (repeat' first | ((with_reducible apply x_gR); rfl; rfl) | ((with_reducible apply x_gRs hq); rfl) | ((with_reducible refine x_gI ?_ ?_); rfl; try simp only [Int.cast_ofNat_Int]) | ((with_reducible refine x_gIs hq ?_); try simp only [Int.cast_ofNat_Int]) | ((with_reducible refine x_ob ?_ ?_); rfl) | (with_reducible refine x_obs hq ?_) | (with_reducible refine x_lI ?_) | (with_reducible refine x_lJ ?_) | (with_reducible refine x_le (by omega) (by omega) (fun h => ?_) (fun h => ?_)) | (with_reducible refine x_lt (by omega) (by omega) (fun h => ?_) (fun h => ?_)) | (with_reducible refine x_eq (by omega) (by omega) (fun h => ?_) (fun h => ?_)) | (with_reducible refine x_brT ?_) | (with_reducible refine x_brF ?_) | (with_reducible refine x_rI ?_) | (with_reducible refine x_rV ?_) | (with_reducible refine x_rJ ?_) | (with_reducible refine x_rZ (by omega) ?_) | (with_reducible refine x_rO ?_) | (with_reducible refine x_thr ?_) | ((with_reducible refine x_pI ?_ ?_); rfl; try simp only [Int.cast_ofNat_Int]) | ((with_reducible refine x_pIs hq ?_); try simp only [Int.cast_ofNat_Int]) | ((with_reducible refine x_pZ ?_ (by omega) ?_); rfl; try simp only [Int.cast_ofNat_Int]) | ((with_reducible refine x_pZs hq (by omega) ?_); try simp only [Int.cast_ofNat_Int]) | (with_reducible refine x_pR ?_) | ((with_reducible apply x_aI); (first | assumption | rfl | exact (kb_st _ hq).2.1 | exact (kb_st _ hq).2.2.1 _ (by omega) (by omega) | exact (kb_st _ hq).2.2.2.1 _ (by omega) (by omega)); omega; omega; omega) | ((with_reducible apply x_sA); (first | assumption | rfl | exact (kb_st _ hq).2.1 | exact (kb_st _ hq).2.2.1 _ (by omega) (by omega) | exact (kb_st _ hq).2.2.2.1 _ (by omega) (by omega)); omega; omega; omega) | ((with_reducible apply x_aL); (first | assumption | rfl | exact (kb_st _ hq).2.1 | exact (kb_st _ hq).2.2.1 _ (by omega) (by omega) | exact (kb_st _ hq).2.2.2.1 _ (by omega) (by omega)); omega) | ((with_reducible apply x_cI); (with_reducible apply sp_X10_cell); (first | assumption | rfl | exact (kb_st _ hq).2.1 | exact (kb_st _ hq).2.2.1 _ (by omega) (by omega) | exact (kb_st _ hq).2.2.2.1 _ (by omega) (by omega)); omega; omega; omega; omega) | ((with_reducible apply x_cI); (with_reducible apply sp_X4_markAt); omega; assumption; omega; omega) | ((with_reducible apply x_aB); rfl; omega; omega; omega; omega) | ((with_reducible apply x_sZ); rfl; omega; omega; omega; omega) | ((with_reducible refine x_nz ?_ ?_ ?_ ?_); omega; omega; omega) | ((with_reducible refine x_nzl ?_ ?_ ?_ ?_); omega; omega; omega) | (simp (disch := omega) only [Int.cast_ofNat_Int, Int.natCast_add, Int.toNat_natCast, i32_add, i32_sub, i32_mul, i32_neg, i32_lit, i64_add, i64_sub, i64_mul, i64_neg, i64_lit, i64_int, h3, g1, i32_long, up_self, up_q, up_k]))
    all_goals (first | omega | exact inner)
  · rintro av μ ⟨K, hK, hKi, rfl, rfl⟩
    dsimp only [bX4_loopsThrough, bX4_loopsThrough_1]
    have f1 : lth V b 144 = lth V b K := lth_flat hK (lk_gap hKi.symm)
    rw [f1] at hQ
    refine x_gI rfl ?_
    rw [show I 191 ((2 : Nat) : Int) = (nL V : Int) from h3]
    refine x_le (by omega) (by omega) (fun h => x_rI ?_) (fun h => ?_)
    · exact hQ
    · omega
end CL62
