section CL56
variable {e : Nat} {I J : IM} {Q : Post} {V : Vw} {s v a b x y : Int}
theorem lk_40 (hG : Good V) {k : Nat} (hk : k < 144) (h : isL V k = true) : lk V k < 40 := by
  have h1 : lk V k < lk V 144 := ct_lt (isL V) hk h
  have h2 : ∀ n : Nat, lk V n ≤ rk V n := by
    intro n
    induction n with
    | zero => exact Nat.le_refl _
    | succ n ih =>
      have a : lk V (n + 1) = lk V n + (if isL V n = true then 1 else 0) := rfl
      have b : rk V (n + 1) = rk V n + (if isE V n = true then 1 else 0) := rfl
      by_cases hl : isL V n = true
      · rw [if_pos hl] at a; rw [if_pos (isL_E hl).1] at b; omega
      · rw [if_neg hl] at a; split at b <;> omega
  have h3 := h2 144
  have h4 := nE40 hG
  have h5 : rk V 144 = nE V := rfl
  omega
theorem sq_bd {c M : Int} (h : -M ≤ c ∧ c ≤ M) : 0 ≤ c * c ∧ c * c ≤ M * M := by
  have hM : 0 ≤ M := by omega
  rcases Int.le_total 0 c with h0 | h0
  · exact ⟨Int.mul_nonneg h0 h0, Int.mul_le_mul h.2 h.2 h0 hM⟩
  · have h1 : c * c = (-c) * (-c) := by rw [Int.neg_mul_neg]
    rw [h1]
    exact ⟨Int.mul_nonneg (by omega) (by omega), Int.mul_le_mul (by omega) (by omega) (by omega) hM⟩
theorem sp_X4_square {n : Nat} (hn : n < 40) {c : Int} (hc : I 194 n = c) (hb : -620136 ≤ c ∧ c ≤ 620136) (hQ : Q (.inl (some (.long (i64 (c * c))))) (ME e I J)) : SX4_square [.ref 191, .int (i32 n)] (ME e I J) Q := by
  refine x_in (Nat.le_of_ble_eq_true rfl) ?_
  dsimp only [bX4_square, bX4_square_0]
  (repeat' first | ((with_reducible apply x_gR); rfl; rfl) | ((with_reducible apply x_gRs hq); rfl) | ((with_reducible refine x_gI ?_ ?_); rfl; try simp only [Int.cast_ofNat_Int]) | ((with_reducible refine x_gIs hq ?_); try simp only [Int.cast_ofNat_Int]) | ((with_reducible refine x_ob ?_ ?_); rfl) | (with_reducible refine x_obs hq ?_) | (with_reducible refine x_lI ?_) | (with_reducible refine x_lJ ?_) | (with_reducible refine x_le (by omega) (by omega) (fun h => ?_) (fun h => ?_)) | (with_reducible refine x_lt (by omega) (by omega) (fun h => ?_) (fun h => ?_)) | (with_reducible refine x_eq (by omega) (by omega) (fun h => ?_) (fun h => ?_)) | (with_reducible refine x_brT ?_) | (with_reducible refine x_brF ?_) | (with_reducible refine x_rI ?_) | (with_reducible refine x_rV ?_) | (with_reducible refine x_rJ ?_) | (with_reducible refine x_rZ (by omega) ?_) | (with_reducible refine x_rO ?_) | (with_reducible refine x_thr ?_) | ((with_reducible refine x_pI ?_ ?_); rfl; try simp only [Int.cast_ofNat_Int]) | ((with_reducible refine x_pIs hq ?_); try simp only [Int.cast_ofNat_Int]) | ((with_reducible refine x_pZ ?_ (by omega) ?_); rfl; try simp only [Int.cast_ofNat_Int]) | ((with_reducible refine x_pZs hq (by omega) ?_); try simp only [Int.cast_ofNat_Int]) | (with_reducible refine x_pR ?_) | ((with_reducible apply x_aI); (first | assumption | rfl | exact (kb_st _ hq).2.1 | exact (kb_st _ hq).2.2.1 _ (by omega) (by omega) | exact (kb_st _ hq).2.2.2.1 _ (by omega) (by omega)); omega; omega; omega) | ((with_reducible apply x_sA); (first | assumption | rfl | exact (kb_st _ hq).2.1 | exact (kb_st _ hq).2.2.1 _ (by omega) (by omega) | exact (kb_st _ hq).2.2.2.1 _ (by omega) (by omega)); omega; omega; omega) | ((with_reducible apply x_aL); (first | assumption | rfl | exact (kb_st _ hq).2.1 | exact (kb_st _ hq).2.2.1 _ (by omega) (by omega) | exact (kb_st _ hq).2.2.2.1 _ (by omega) (by omega)); omega) | ((with_reducible apply x_cI); (with_reducible apply sp_X10_cell); (first | assumption | rfl | exact (kb_st _ hq).2.1 | exact (kb_st _ hq).2.2.1 _ (by omega) (by omega) | exact (kb_st _ hq).2.2.2.1 _ (by omega) (by omega)); omega; omega; omega; omega) | ((with_reducible apply x_aB); rfl; omega; omega; omega; omega) | ((with_reducible apply x_sZ); rfl; omega; omega; omega; omega) | ((with_reducible refine x_nz ?_ ?_ ?_ ?_); omega; omega; omega) | ((with_reducible refine x_nzl ?_ ?_ ?_ ?_); omega; omega; omega) | (simp (disch := omega) only [Int.cast_ofNat_Int, Int.natCast_add, Int.toNat_natCast, i32_add, i32_sub, i32_mul, i32_neg, i32_lit, i64_add, i64_sub, i64_mul, i64_neg, i64_lit, i64_int, hc, i32_long, up_self, up_q, up_k]))
  exact hQ
/-- a loop closes: what the class holds of loop n -/
theorem sp_X4_closes {n : Nat} (hn : n < 40) {c w : Int} (hc : I 194 n = c) (hw : I 193 n = w) (hb : -620136 ≤ c ∧ c ≤ 620136) (hwb : 0 ≤ w ∧ w ≤ 1199988) (hl : 0 ≤ b ∧ b ≤ 1000)
    (hQ : Q (.inl (some (.int (i32 (if 1000 * (c * c) ≤ w * b * b then 1 else 0))))) (ME e I J)) : SX4_closes [.ref 191, .int (i32 n), .int (i32 b)] (ME e I J) Q := by
  refine x_in (Nat.le_of_ble_eq_true rfl) ?_
  dsimp only [bX4_closes, bX4_closes_0]
  have s1 := sq_bd hb
  have s2 := mul_bd (a := w) (b := b) (A := 1199988) (B := 1000) (by omega) hl
  have s3 := mul_bd (a := w * b) (b := b) (A := 1199988 * 1000) (B := 1000) (by omega) hl
  refine x_ob rfl (x_cJ (sp_X4_square hn hc hb ?_))
  (repeat' first | ((with_reducible apply x_gR); rfl; rfl) | ((with_reducible apply x_gRs hq); rfl) | ((with_reducible refine x_gI ?_ ?_); rfl; try simp only [Int.cast_ofNat_Int]) | ((with_reducible refine x_gIs hq ?_); try simp only [Int.cast_ofNat_Int]) | ((with_reducible refine x_ob ?_ ?_); rfl) | (with_reducible refine x_obs hq ?_) | (with_reducible refine x_lI ?_) | (with_reducible refine x_lJ ?_) | (with_reducible refine x_le (by omega) (by omega) (fun h => ?_) (fun h => ?_)) | (with_reducible refine x_lt (by omega) (by omega) (fun h => ?_) (fun h => ?_)) | (with_reducible refine x_eq (by omega) (by omega) (fun h => ?_) (fun h => ?_)) | (with_reducible refine x_brT ?_) | (with_reducible refine x_brF ?_) | (with_reducible refine x_rI ?_) | (with_reducible refine x_rV ?_) | (with_reducible refine x_rJ ?_) | (with_reducible refine x_rZ (by omega) ?_) | (with_reducible refine x_rO ?_) | (with_reducible refine x_thr ?_) | ((with_reducible refine x_pI ?_ ?_); rfl; try simp only [Int.cast_ofNat_Int]) | ((with_reducible refine x_pIs hq ?_); try simp only [Int.cast_ofNat_Int]) | ((with_reducible refine x_pZ ?_ (by omega) ?_); rfl; try simp only [Int.cast_ofNat_Int]) | ((with_reducible refine x_pZs hq (by omega) ?_); try simp only [Int.cast_ofNat_Int]) | (with_reducible refine x_pR ?_) | ((with_reducible apply x_aI); (first | assumption | rfl | exact (kb_st _ hq).2.1 | exact (kb_st _ hq).2.2.1 _ (by omega) (by omega) | exact (kb_st _ hq).2.2.2.1 _ (by omega) (by omega)); omega; omega; omega) | ((with_reducible apply x_sA); (first | assumption | rfl | exact (kb_st _ hq).2.1 | exact (kb_st _ hq).2.2.1 _ (by omega) (by omega) | exact (kb_st _ hq).2.2.2.1 _ (by omega) (by omega)); omega; omega; omega) | ((with_reducible apply x_aL); (first | assumption | rfl | exact (kb_st _ hq).2.1 | exact (kb_st _ hq).2.2.1 _ (by omega) (by omega) | exact (kb_st _ hq).2.2.2.1 _ (by omega) (by omega)); omega) | ((with_reducible apply x_cI); (with_reducible apply sp_X10_cell); (first | assumption | rfl | exact (kb_st _ hq).2.1 | exact (kb_st _ hq).2.2.1 _ (by omega) (by omega) | exact (kb_st _ hq).2.2.2.1 _ (by omega) (by omega)); omega; omega; omega; omega) | ((with_reducible apply x_aB); rfl; omega; omega; omega; omega) | ((with_reducible apply x_sZ); rfl; omega; omega; omega; omega) | ((with_reducible refine x_nz ?_ ?_ ?_ ?_); omega; omega; omega) | ((with_reducible refine x_nzl ?_ ?_ ?_ ?_); omega; omega; omega) | (simp (disch := omega) only [Int.cast_ofNat_Int, Int.natCast_add, Int.toNat_natCast, i32_add, i32_sub, i32_mul, i32_neg, i32_lit, i64_add, i64_sub, i64_mul, i64_neg, i64_lit, i64_int, hw, i32_long, up_self, up_q, up_k]))
  refine x_lcgt (by omega) (by omega) (fun h => ?_) (fun h => ?_)
  · rw [if_neg (by omega)] at hQ; exact x_rZ (v := 0) (by omega) hQ
  · rw [if_pos h] at hQ; exact x_rZ (v := 1) (by omega) hQ
theorem sp_X4_markAt {n : Nat} (hn : n < 40) {z : Int} (hz : I 192 n = z) (hzb : 0 ≤ z ∧ z ≤ 12) (ha : -2147483648 ≤ a ∧ a < 2147483648) (hQ : Q (.inl (some (.int (i32 (if 0 ≤ a ∧ a < z then I 195 (12 * n + a) else -1))))) (ME e I J)) : SX4_markAt [.ref 191, .int (i32 n), .int (i32 a)] (ME e I J) Q := by
  refine x_in (Nat.le_of_ble_eq_true rfl) ?_
  dsimp only [bX4_markAt, bX4_markAt_0]
  (repeat' first | ((with_reducible apply x_gR); rfl; rfl) | ((with_reducible apply x_gRs hq); rfl) | ((with_reducible refine x_gI ?_ ?_); rfl; try simp only [Int.cast_ofNat_Int]) | ((with_reducible refine x_gIs hq ?_); try simp only [Int.cast_ofNat_Int]) | ((with_reducible refine x_ob ?_ ?_); rfl) | (with_reducible refine x_obs hq ?_) | (with_reducible refine x_lI ?_) | (with_reducible refine x_lJ ?_) | (with_reducible refine x_le (by omega) (by omega) (fun h => ?_) (fun h => ?_)) | (with_reducible refine x_lt (by omega) (by omega) (fun h => ?_) (fun h => ?_)) | (with_reducible refine x_eq (by omega) (by omega) (fun h => ?_) (fun h => ?_)) | (with_reducible refine x_brT ?_) | (with_reducible refine x_brF ?_) | (with_reducible refine x_rI ?_) | (with_reducible refine x_rV ?_) | (with_reducible refine x_rJ ?_) | (with_reducible refine x_rZ (by omega) ?_) | (with_reducible refine x_rO ?_) | (with_reducible refine x_thr ?_) | ((with_reducible refine x_pI ?_ ?_); rfl; try simp only [Int.cast_ofNat_Int]) | ((with_reducible refine x_pIs hq ?_); try simp only [Int.cast_ofNat_Int]) | ((with_reducible refine x_pZ ?_ (by omega) ?_); rfl; try simp only [Int.cast_ofNat_Int]) | ((with_reducible refine x_pZs hq (by omega) ?_); try simp only [Int.cast_ofNat_Int]) | (with_reducible refine x_pR ?_) | ((with_reducible apply x_aI); (first | assumption | rfl | exact (kb_st _ hq).2.1 | exact (kb_st _ hq).2.2.1 _ (by omega) (by omega) | exact (kb_st _ hq).2.2.2.1 _ (by omega) (by omega)); omega; omega; omega) | ((with_reducible apply x_sA); (first | assumption | rfl | exact (kb_st _ hq).2.1 | exact (kb_st _ hq).2.2.1 _ (by omega) (by omega) | exact (kb_st _ hq).2.2.2.1 _ (by omega) (by omega)); omega; omega; omega) | ((with_reducible apply x_aL); (first | assumption | rfl | exact (kb_st _ hq).2.1 | exact (kb_st _ hq).2.2.1 _ (by omega) (by omega) | exact (kb_st _ hq).2.2.2.1 _ (by omega) (by omega)); omega) | ((with_reducible apply x_cI); (with_reducible apply sp_X10_cell); (first | assumption | rfl | exact (kb_st _ hq).2.1 | exact (kb_st _ hq).2.2.1 _ (by omega) (by omega) | exact (kb_st _ hq).2.2.2.1 _ (by omega) (by omega)); omega; omega; omega; omega) | ((with_reducible apply x_aB); rfl; omega; omega; omega; omega) | ((with_reducible apply x_sZ); rfl; omega; omega; omega; omega) | ((with_reducible refine x_nz ?_ ?_ ?_ ?_); omega; omega; omega) | ((with_reducible refine x_nzl ?_ ?_ ?_ ?_); omega; omega; omega) | (simp (disch := omega) only [Int.cast_ofNat_Int, Int.natCast_add, Int.toNat_natCast, i32_add, i32_sub, i32_mul, i32_neg, i32_lit, i64_add, i64_sub, i64_mul, i64_neg, i64_lit, i64_int, hz, i32_long, up_self, up_q, up_k]))
  · rw [if_neg (by omega)] at hQ; exact hQ
  · rw [if_neg (by omega)] at hQ; exact hQ
  · rw [if_pos (by omega)] at hQ; exact hQ
/-- what the class holds of the loop of edge k, as loop n -/
def L1 (I : IM) (V : Vw) (n : Nat) (k : Int) : Prop :=
  I 192 n = lD V k + 1 ∧ I 193 n = lW V k ∧ I 194 n = lC V k ∧ ∀ i : Nat, i ≤ lD V k → I 195 (12 * n + i) = lM V k i
theorem sp_X4_trace (hG : Good V) (hW : Rwl I 5 V) (hM : Md I V) (hg : Gw I V) {k : Nat} (hk : k < 144) (hL : isL V k = true) {n : Nat} (hn : n < 40) (hI : I 191 2 = n)
    (hQ : ∀ I' : IM, (∀ q, q < 192 ∨ 195 < q → I' q = I q) → L1 I' V n k → (∀ j : Nat, j < n → (I' 192 j = I 192 j ∧ I' 193 j = I 193 j ∧ I' 194 j = I 194 j ∧ ∀ i : Int, 0 ≤ i → i < 12 → I' 195 (12 * j + i) = I 195 (12 * j + i))) → Q (.inl none) (ME e I' J)) : SX4_trace [.ref 191, .int (i32 (rk V k))] (ME e I J) Q := by
  refine x_in (Nat.le_of_ble_eq_true rfl) ?_
  dsimp only [bX4_trace, bX4_trace_0]
  have hE := (isL_E hL).1
  have hm := hG.1
  have g := hM.2.2.2.1 k hk hE
  have g1 := g.1
  have g2 := g.2.1
  have g3 := g.2.2.1
  have g5 := g.2.2.2.2.1
  have r40 := rk_lt40 hG hk hE
  have ed := gd_E hG (isE_iff.mp hE)
  have jj := E_jn hG hE
  have dd := lD_ok hG hE
  (repeat' first | ((with_reducible apply x_gR); rfl; rfl) | ((with_reducible apply x_gRs hq); rfl) | ((with_reducible refine x_gI ?_ ?_); rfl; try simp only [Int.cast_ofNat_Int]) | ((with_reducible refine x_gIs hq ?_); try simp only [Int.cast_ofNat_Int]) | ((with_reducible refine x_ob ?_ ?_); rfl) | (with_reducible refine x_obs hq ?_) | (with_reducible refine x_lI ?_) | (with_reducible refine x_lJ ?_) | (with_reducible refine x_le (by omega) (by omega) (fun h => ?_) (fun h => ?_)) | (with_reducible refine x_lt (by omega) (by omega) (fun h => ?_) (fun h => ?_)) | (with_reducible refine x_eq (by omega) (by omega) (fun h => ?_) (fun h => ?_)) | (with_reducible refine x_brT ?_) | (with_reducible refine x_brF ?_) | (with_reducible refine x_rI ?_) | (with_reducible refine x_rV ?_) | (with_reducible refine x_rJ ?_) | (with_reducible refine x_rZ (by omega) ?_) | (with_reducible refine x_rO ?_) | (with_reducible refine x_thr ?_) | ((with_reducible refine x_pI ?_ ?_); rfl; try simp only [Int.cast_ofNat_Int]) | ((with_reducible refine x_pIs hq ?_); try simp only [Int.cast_ofNat_Int]) | ((with_reducible refine x_pZ ?_ (by omega) ?_); rfl; try simp only [Int.cast_ofNat_Int]) | ((with_reducible refine x_pZs hq (by omega) ?_); try simp only [Int.cast_ofNat_Int]) | (with_reducible refine x_pR ?_) | ((with_reducible apply x_aI); (first | assumption | rfl | exact (kb_st _ hq).2.1 | exact (kb_st _ hq).2.2.1 _ (by omega) (by omega) | exact (kb_st _ hq).2.2.2.1 _ (by omega) (by omega)); omega; omega; omega) | ((with_reducible apply x_sA); (first | assumption | rfl | exact (kb_st _ hq).2.1 | exact (kb_st _ hq).2.2.1 _ (by omega) (by omega) | exact (kb_st _ hq).2.2.2.1 _ (by omega) (by omega)); omega; omega; omega) | ((with_reducible apply x_aL); (first | assumption | rfl | exact (kb_st _ hq).2.1 | exact (kb_st _ hq).2.2.1 _ (by omega) (by omega) | exact (kb_st _ hq).2.2.2.1 _ (by omega) (by omega)); omega) | ((with_reducible apply x_cI); (with_reducible apply sp_X10_cell); (first | assumption | rfl | exact (kb_st _ hq).2.1 | exact (kb_st _ hq).2.2.1 _ (by omega) (by omega) | exact (kb_st _ hq).2.2.2.1 _ (by omega) (by omega)); omega; omega; omega; omega) | ((with_reducible apply x_cV); (with_reducible apply sp_X10_put); (first | assumption | rfl | exact (kb_st _ hq).2.1 | exact (kb_st _ hq).2.2.1 _ (by omega) (by omega) | exact (kb_st _ hq).2.2.2.1 _ (by omega) (by omega)); omega; omega; omega; omega) | ((with_reducible refine x_cI (sp_X1_hop ?_ ?_ ?_)); (first | assumption | exact ⟨by omega, by omega⟩); (first | assumption | exact ⟨by omega, by omega⟩)) | ((with_reducible refine x_cI (sp_X9_distance ?_ hG ?_ ?_ ?_ ?_)); exact ⟨rfl, rfl, rfl⟩; (focus (repeat' first | assumption | exact Rst.up (by assumption) (by omega) | refine Rst.up ?_ (by omega) | refine Rwl.up ?_ (by omega) | refine Rrw.up ?_ (by omega))); omega; omega) | ((with_reducible refine x_cI (sp_X1_climbOf ?_ ?_ ?_)); (first | assumption | exact ⟨by omega, by omega⟩); (first | assumption | exact ⟨by omega, by omega⟩)) | ((with_reducible apply x_aB); rfl; omega; omega; omega; omega) | ((with_reducible apply x_sZ); rfl; omega; omega; omega; omega) | ((with_reducible refine x_nz ?_ ?_ ?_ ?_); omega; omega; omega) | ((with_reducible refine x_nzl ?_ ?_ ?_ ?_); omega; omega; omega) | (simp (disch := omega) only [Int.cast_ofNat_Int, Int.natCast_add, Int.toNat_natCast, i32_add, i32_sub, i32_mul, i32_neg, i32_lit, i64_add, i64_sub, i64_mul, i64_neg, i64_lit, i64_int, g1, g2, g3, hI, i32_long, up_self, up_q, up_k]))
  refine x_for (lD V k) (fun i av μ => ∃ I' : IM, av = [.ref 191, .int (i32 (rk V k)), .int (i32 ((k : Int) / 12)), .int (i32 (pth V ((k : Int) / 12) ((k : Int) % 12) i)), .int (i32 ((i : Int) + 1)), .int (i32 (dk V k + pw V ((k : Int) / 12) ((k : Int) % 12) i))] ∧ μ = ME e I' J ∧ (∀ q, q ≠ 195 → I' q = I q) ∧ (∀ j : Int, 0 ≤ j → j < 12 * n → I' 195 j = I 195 j) ∧ ∀ j : Nat, j ≤ i → I' 195 (12 * n + j) = lM V k j) ?_ ?_ (Nat.zero_le _) ⟨_, by simp only [Int.cast_ofNat_Int, Int.natCast_add, Int.toNat_natCast, i32_add, i32_sub, i32_mul, i32_neg, i32_lit, i64_add, i64_sub, i64_mul, i64_neg, i64_lit, i64_int, pth, pw, Int.add_zero, Int.zero_add], rfl, fun q h => up_ne_q h, fun j a b => up_k (by omega), fun j h => ?_⟩
  · rintro i av μ hi ⟨I', rfl, rfl, hf, hlo, hs⟩ hJ
    dsimp only [bX4_trace, bX4_trace_1]
    have o := pth_ok hG jj.2.1 jj.1 jj.2.2 i (by omega)
    have o2 := pth_ok hG jj.2.1 jj.1 jj.2.2 (i + 1) (by omega)
    have st := pth_step hG jj.2.1 jj.1 jj.2.2 (i := i) (by omega)
    have pm := pth_m hG hE i (by omega)
    have pm2 := pth_m hG hE (i + 1) (by omega)
    have n2 : I' 191 2 = n := by rw [hf 191 (by omega)]; exact hI
    have pwb := pw_bd hG hE i (by omega)
    have ho := o.1
    unfold mark12 at ho
    have hh : I 189 (12 * pth V ((k : Int) / 12) ((k : Int) % 12) i + (k : Int) / 12) = pth V ((k : Int) / 12) ((k : Int) % 12) (i + 1) := by
      exact hg.1.2.2 _ _ o.1 jj.1 o.2.1 st.1
    rw [← hf 189 (by omega)] at hh
    have hst := st.1
    have W2 : Rwl I' 5 V := hW.keep (fun d hd => hf _ (by omega))
    (repeat' first | ((with_reducible apply x_gR); rfl; rfl) | ((with_reducible apply x_gRs hq); rfl) | ((with_reducible refine x_gI ?_ ?_); rfl; try simp only [Int.cast_ofNat_Int]) | ((with_reducible refine x_gIs hq ?_); try simp only [Int.cast_ofNat_Int]) | ((with_reducible refine x_ob ?_ ?_); rfl) | (with_reducible refine x_obs hq ?_) | (with_reducible refine x_lI ?_) | (with_reducible refine x_lJ ?_) | (with_reducible refine x_le (by omega) (by omega) (fun h => ?_) (fun h => ?_)) | (with_reducible refine x_lt (by omega) (by omega) (fun h => ?_) (fun h => ?_)) | (with_reducible refine x_eq (by omega) (by omega) (fun h => ?_) (fun h => ?_)) | (with_reducible refine x_brT ?_) | (with_reducible refine x_brF ?_) | (with_reducible refine x_rI ?_) | (with_reducible refine x_rV ?_) | (with_reducible refine x_rJ ?_) | (with_reducible refine x_rZ (by omega) ?_) | (with_reducible refine x_rO ?_) | (with_reducible refine x_thr ?_) | ((with_reducible refine x_pI ?_ ?_); rfl; try simp only [Int.cast_ofNat_Int]) | ((with_reducible refine x_pIs hq ?_); try simp only [Int.cast_ofNat_Int]) | ((with_reducible refine x_pZ ?_ (by omega) ?_); rfl; try simp only [Int.cast_ofNat_Int]) | ((with_reducible refine x_pZs hq (by omega) ?_); try simp only [Int.cast_ofNat_Int]) | (with_reducible refine x_pR ?_) | ((with_reducible apply x_aI); (first | assumption | rfl | exact (kb_st _ hq).2.1 | exact (kb_st _ hq).2.2.1 _ (by omega) (by omega) | exact (kb_st _ hq).2.2.2.1 _ (by omega) (by omega)); omega; omega; omega) | ((with_reducible apply x_sA); (first | assumption | rfl | exact (kb_st _ hq).2.1 | exact (kb_st _ hq).2.2.1 _ (by omega) (by omega) | exact (kb_st _ hq).2.2.2.1 _ (by omega) (by omega)); omega; omega; omega) | ((with_reducible apply x_aL); (first | assumption | rfl | exact (kb_st _ hq).2.1 | exact (kb_st _ hq).2.2.1 _ (by omega) (by omega) | exact (kb_st _ hq).2.2.2.1 _ (by omega) (by omega)); omega) | ((with_reducible apply x_cI); (with_reducible apply sp_X10_cell); (first | assumption | rfl | exact (kb_st _ hq).2.1 | exact (kb_st _ hq).2.2.1 _ (by omega) (by omega) | exact (kb_st _ hq).2.2.2.1 _ (by omega) (by omega)); omega; omega; omega; omega) | ((with_reducible apply x_cV); (with_reducible apply sp_X10_put); (first | assumption | rfl | exact (kb_st _ hq).2.1 | exact (kb_st _ hq).2.2.1 _ (by omega) (by omega) | exact (kb_st _ hq).2.2.2.1 _ (by omega) (by omega)); omega; omega; omega; omega) | ((with_reducible refine x_cI (sp_X1_hop ?_ ?_ ?_)); (first | assumption | exact ⟨by omega, by omega⟩); (first | assumption | exact ⟨by omega, by omega⟩)) | ((with_reducible refine x_cI (sp_X9_distance ?_ hG ?_ ?_ ?_ ?_)); exact ⟨rfl, rfl, rfl⟩; (focus (repeat' first | assumption | exact Rst.up (by assumption) (by omega) | refine Rst.up ?_ (by omega) | refine Rwl.up ?_ (by omega) | refine Rrw.up ?_ (by omega))); omega; omega) | ((with_reducible apply x_aB); rfl; omega; omega; omega; omega) | ((with_reducible apply x_sZ); rfl; omega; omega; omega; omega) | ((with_reducible refine x_nz ?_ ?_ ?_ ?_); omega; omega; omega) | ((with_reducible refine x_nzl ?_ ?_ ?_ ?_); omega; omega; omega) | (simp (disch := omega) only [Int.cast_ofNat_Int, Int.natCast_add, Int.toNat_natCast, i32_add, i32_sub, i32_mul, i32_neg, i32_lit, i64_add, i64_sub, i64_mul, i64_neg, i64_lit, i64_int, n2, hh, i32_long, up_self, up_q, up_k]))
    all_goals (try omega)
    apply hJ
    refine ⟨_, by simp only [Int.cast_ofNat_Int, Int.natCast_add, Int.toNat_natCast, i32_add, i32_sub, i32_mul, i32_neg, i32_lit, i64_add, i64_sub, i64_mul, i64_neg, i64_lit, i64_int, pw, Int.add_assoc], rfl, fun q h => by rw [up_ne_q h, hf q h], fun j a b => by rw [up_k (by omega)]; exact hlo j a b, fun j hj => ?_⟩
    by_cases hji : j = i + 1
    · subst hji
      rw [show 12 * (n : Int) + ((i + 1 : Nat) : Int) = 12 * n + (i + 1) by omega, up_self]; rfl
    · rw [up_k (by omega)]; exact hs j (by omega)
  · rintro av μ ⟨I', rfl, rfl, hf, hlo, hs⟩
    dsimp only [bX4_trace, bX4_trace_1]
    have n2 : I' 191 2 = n := by rw [hf 191 (by omega)]; exact hI
    have pe := pth_end hG jj.2.1 jj.1 jj.2.2 dd.1
    have o := pth_ok hG jj.2.1 jj.1 jj.2.2 (lD V k) (by omega)
    have pwb := pw_bd hG hE (lD V k) (by omega)
    rw [pe]
    have go2 : fx bX4_trace 2 [.ref 191, .int (i32 (rk V k)), .int (i32 ((k : Int) / 12)), .int (i32 ((lD V k : Int) + 1)), .int (i32 (dk V k + pw V ((k : Int) / 12) ((k : Int) % 12) (lD V k)))] (ME e I' J) Q := by
      refine fx_in ?_
      dsimp only [bX4_trace, bX4_trace_2]
      have M' : Md I' V := by
        unfold Md M1 at *
        rw [hf 171 (by omega), hf 172 (by omega), hf 173 (by omega), hf 174 (by omega), hf 175 (by omega), hf 176 (by omega), hf 177 (by omega), hf 178 (by omega), hf 179 (by omega), hf 180 (by omega), hf 181 (by omega), hf 182 (by omega), hf 183 (by omega)]
        exact hM
      have g' := M'.2.2.2.1 k hk hE
      have g1 := g'.1
      have g2 := g'.2.1
      have g5 := g'.2.2.2.2.1
      have hc : I' 190 (12 * ((k : Int) % 12) + (k : Int) / 12) = fC (forest V) ((k : Int) % 12) ((k : Int) / 12) := by
        rw [hf 190 (by omega)]; exact hg.1.2.1 _ _ jj.2.1 jj.1 jj.2.2
      (repeat' first | ((with_reducible apply x_gR); rfl; rfl) | ((with_reducible apply x_gRs hq); rfl) | ((with_reducible refine x_gI ?_ ?_); rfl; try simp only [Int.cast_ofNat_Int]) | ((with_reducible refine x_gIs hq ?_); try simp only [Int.cast_ofNat_Int]) | ((with_reducible refine x_ob ?_ ?_); rfl) | (with_reducible refine x_obs hq ?_) | (with_reducible refine x_lI ?_) | (with_reducible refine x_lJ ?_) | (with_reducible refine x_le (by omega) (by omega) (fun h => ?_) (fun h => ?_)) | (with_reducible refine x_lt (by omega) (by omega) (fun h => ?_) (fun h => ?_)) | (with_reducible refine x_eq (by omega) (by omega) (fun h => ?_) (fun h => ?_)) | (with_reducible refine x_brT ?_) | (with_reducible refine x_brF ?_) | (with_reducible refine x_rI ?_) | (with_reducible refine x_rV ?_) | (with_reducible refine x_rJ ?_) | (with_reducible refine x_rZ (by omega) ?_) | (with_reducible refine x_rO ?_) | (with_reducible refine x_thr ?_) | ((with_reducible refine x_pI ?_ ?_); rfl; try simp only [Int.cast_ofNat_Int]) | ((with_reducible refine x_pIs hq ?_); try simp only [Int.cast_ofNat_Int]) | ((with_reducible refine x_pZ ?_ (by omega) ?_); rfl; try simp only [Int.cast_ofNat_Int]) | ((with_reducible refine x_pZs hq (by omega) ?_); try simp only [Int.cast_ofNat_Int]) | (with_reducible refine x_pR ?_) | ((with_reducible apply x_aI); (first | assumption | rfl | exact (kb_st _ hq).2.1 | exact (kb_st _ hq).2.2.1 _ (by omega) (by omega) | exact (kb_st _ hq).2.2.2.1 _ (by omega) (by omega)); omega; omega; omega) | ((with_reducible apply x_sA); (first | assumption | rfl | exact (kb_st _ hq).2.1 | exact (kb_st _ hq).2.2.1 _ (by omega) (by omega) | exact (kb_st _ hq).2.2.2.1 _ (by omega) (by omega)); omega; omega; omega) | ((with_reducible apply x_aL); (first | assumption | rfl | exact (kb_st _ hq).2.1 | exact (kb_st _ hq).2.2.1 _ (by omega) (by omega) | exact (kb_st _ hq).2.2.2.1 _ (by omega) (by omega)); omega) | ((with_reducible apply x_cI); (with_reducible apply sp_X10_cell); (first | assumption | rfl | exact (kb_st _ hq).2.1 | exact (kb_st _ hq).2.2.1 _ (by omega) (by omega) | exact (kb_st _ hq).2.2.2.1 _ (by omega) (by omega)); omega; omega; omega; omega) | ((with_reducible apply x_cV); (with_reducible apply sp_X10_put); (first | assumption | rfl | exact (kb_st _ hq).2.1 | exact (kb_st _ hq).2.2.1 _ (by omega) (by omega) | exact (kb_st _ hq).2.2.2.1 _ (by omega) (by omega)); omega; omega; omega; omega) | ((with_reducible refine x_cI (sp_X1_hop ?_ ?_ ?_)); (first | assumption | exact ⟨by omega, by omega⟩); (first | assumption | exact ⟨by omega, by omega⟩)) | ((with_reducible refine x_cI (sp_X9_distance ?_ hG ?_ ?_ ?_ ?_)); exact ⟨rfl, rfl, rfl⟩; (focus (repeat' first | assumption | exact Rst.up (by assumption) (by omega) | refine Rst.up ?_ (by omega) | refine Rwl.up ?_ (by omega) | refine Rrw.up ?_ (by omega))); omega; omega) | ((with_reducible refine x_cI (sp_X1_climbOf ?_ ?_ ?_)); (first | assumption | exact ⟨by omega, by omega⟩); (first | assumption | exact ⟨by omega, by omega⟩)) | ((with_reducible apply x_aB); rfl; omega; omega; omega; omega) | ((with_reducible apply x_sZ); rfl; omega; omega; omega; omega) | ((with_reducible refine x_nz ?_ ?_ ?_ ?_); omega; omega; omega) | ((with_reducible refine x_nzl ?_ ?_ ?_ ?_); omega; omega; omega) | (simp (disch := omega) only [Int.cast_ofNat_Int, Int.natCast_add, Int.toNat_natCast, i32_add, i32_sub, i32_mul, i32_neg, i32_lit, i64_add, i64_sub, i64_mul, i64_neg, i64_lit, i64_int, n2, g1, g2, g5, hc, i32_long, up_self, up_q, up_k]))
      refine hQ _ (fun q h => ?_) ⟨?_, ?_, ?_, fun i hi => ?_⟩ fun j hj => ⟨?_, ?_, ?_, fun i a b => ?_⟩
      · simp (disch := omega) only [up_ne_q]; exact hf q (by omega)
      · simp (disch := omega) only [up_q, up_self]
      · simp (disch := omega) only [up_q, up_self]; rfl
      · simp (disch := omega) only [up_q, up_self]; rfl
      · simp (disch := omega) only [up_q]; exact hs i hi
      · simp (disch := omega) only [up_q, up_k]; rw [hf 192 (by omega)]
      · simp (disch := omega) only [up_q, up_k]; rw [hf 193 (by omega)]
      · simp (disch := omega) only [up_q, up_k]; rw [hf 194 (by omega)]
      · simp (disch := omega) only [up_q]; exact hlo _ (by omega) (by omega)
    (repeat' first | ((with_reducible apply x_gR); rfl; rfl) | ((with_reducible apply x_gRs hq); rfl) | ((with_reducible refine x_gI ?_ ?_); rfl; try simp only [Int.cast_ofNat_Int]) | ((with_reducible refine x_gIs hq ?_); try simp only [Int.cast_ofNat_Int]) | ((with_reducible refine x_ob ?_ ?_); rfl) | (with_reducible refine x_obs hq ?_) | (with_reducible refine x_lI ?_) | (with_reducible refine x_lJ ?_) | (with_reducible refine x_le (by omega) (by omega) (fun h => ?_) (fun h => ?_)) | (with_reducible refine x_lt (by omega) (by omega) (fun h => ?_) (fun h => ?_)) | (with_reducible refine x_eq (by omega) (by omega) (fun h => ?_) (fun h => ?_)) | (with_reducible refine x_brT ?_) | (with_reducible refine x_brF ?_) | (with_reducible refine x_rI ?_) | (with_reducible refine x_rV ?_) | (with_reducible refine x_rJ ?_) | (with_reducible refine x_rZ (by omega) ?_) | (with_reducible refine x_rO ?_) | (with_reducible refine x_thr ?_) | ((with_reducible refine x_pI ?_ ?_); rfl; try simp only [Int.cast_ofNat_Int]) | ((with_reducible refine x_pIs hq ?_); try simp only [Int.cast_ofNat_Int]) | ((with_reducible refine x_pZ ?_ (by omega) ?_); rfl; try simp only [Int.cast_ofNat_Int]) | ((with_reducible refine x_pZs hq (by omega) ?_); try simp only [Int.cast_ofNat_Int]) | (with_reducible refine x_pR ?_) | ((with_reducible apply x_aI); (first | assumption | rfl | exact (kb_st _ hq).2.1 | exact (kb_st _ hq).2.2.1 _ (by omega) (by omega) | exact (kb_st _ hq).2.2.2.1 _ (by omega) (by omega)); omega; omega; omega) | ((with_reducible apply x_sA); (first | assumption | rfl | exact (kb_st _ hq).2.1 | exact (kb_st _ hq).2.2.1 _ (by omega) (by omega) | exact (kb_st _ hq).2.2.2.1 _ (by omega) (by omega)); omega; omega; omega) | ((with_reducible apply x_aL); (first | assumption | rfl | exact (kb_st _ hq).2.1 | exact (kb_st _ hq).2.2.1 _ (by omega) (by omega) | exact (kb_st _ hq).2.2.2.1 _ (by omega) (by omega)); omega) | ((with_reducible apply x_aB); rfl; omega; omega; omega; omega) | ((with_reducible apply x_sZ); rfl; omega; omega; omega; omega) | ((with_reducible refine x_nz ?_ ?_ ?_ ?_); omega; omega; omega) | ((with_reducible refine x_nzl ?_ ?_ ?_ ?_); omega; omega; omega) | (simp (disch := omega) only [Int.cast_ofNat_Int, Int.natCast_add, Int.toNat_natCast, i32_add, i32_sub, i32_mul, i32_neg, i32_lit, i64_add, i64_sub, i64_mul, i64_neg, i64_lit, i64_int, i32_long, up_self, up_q, up_k]))
    all_goals (try omega)
    all_goals exact go2
  · have : j = 0 := by omega
    subst this
    rw [show 12 * (n : Int) + ((0 : Nat) : Int) = 12 * n by omega, up_self]; rfl
/-- the loop marks of loop n -/
theorem L1.keep {I I' : IM} {n : Nat} {k : Int} (h : L1 I V n k) (h2 : I' 192 n = I 192 n ∧ I' 193 n = I 193 n ∧ I' 194 n = I 194 n ∧ ∀ i : Int, 0 ≤ i → i < 12 → I' 195 (12 * n + i) = I 195 (12 * n + i)) (hd : lD V k ≤ 11) : L1 I' V n k := by
  refine ⟨by rw [h2.1]; exact h.1, by rw [h2.2.1]; exact h.2.1, by rw [h2.2.2.1]; exact h.2.2.1, fun i hi => by rw [h2.2.2.2 i (by omega) (by omega)]; exact h.2.2.2 i hi⟩
theorem lE_pq (hG : Good V) {k : Int} (hL : isL V k = true) {i : Nat} (hi : i < lD V k) : lE V k i = pq (lM V k i) (lM V k (i + 1)) := by
  cases i with
  | zero =>
    have c := gd_E hG (isE_iff.mp (isL_E hL).1)
    exact (pq_self c.2.1 c.2.2.2.2.1).symm
  | succ i => rfl
theorem lE_last (hG : Good V) {k : Int} (hL : isL V k = true) : lE V k (lD V k) = pq (lM V k (lD V k)) (lM V k 0) := by
  have j := E_jn hG (isL_E hL).1
  have d := lD_ok hG (isL_E hL).1
  obtain ⟨n, hn⟩ : ∃ n, lD V k = n + 1 := ⟨lD V k - 1, by omega⟩
  rw [hn]
  show pq (pth V (k / 12) (k % 12) n) (pth V (k / 12) (k % 12) (n + 1)) = pq (pth V (k / 12) (k % 12) n) (k / 12)
  rw [pth_end hG j.2.1 j.1 j.2.2 (n := n + 1) (by omega)]
theorem lM_ne (hG : Good V) {k : Int} (hL : isL V k = true) {i : Nat} (hi : i < lD V k) : lM V k i ≠ lM V k (i + 1) := by
  have j := E_jn hG (isL_E hL).1
  have d := lD_ok hG (isL_E hL).1
  have c := gd_E hG (isE_iff.mp (isL_E hL).1)
  cases i with
  | zero => intro q; have q : k / 12 = k % 12 := q; omega
  | succ i =>
    have s := pth_step hG j.2.1 j.1 j.2.2 (i := i) (by omega)
    exact fun q => s.2.1 q.symm
theorem lM_last_ne (hG : Good V) {k : Int} (hL : isL V k = true) : lM V k (lD V k) ≠ lM V k 0 := by
  have j := E_jn hG (isL_E hL).1
  have d := lD_ok hG (isL_E hL).1
  obtain ⟨n, hn⟩ : ∃ n, lD V k = n + 1 := ⟨lD V k - 1, by omega⟩
  rw [hn]
  exact (pth_step hG j.2.1 j.1 j.2.2 (i := n) (by omega)).1
theorem Md.betw {I : IM} (h : Md I V) (hG : Good V) {k : Int} (h0 : 0 ≤ k) (h1 : k < 144) (hE : isE V k = true) : I 175 k = rkI V k := by
  have := h.2.2.2.2 k.toNat (by omega)
  rw [Int.toNat_of_nonneg h0, if_pos hE] at this
  exact this
theorem sp_X4_countEdges (hG : Good V) (hM : Md I V) {k : Nat} (hk : k < 144) (hL : isL V k = true) {n : Nat} (hn : n < 40) (hI : I 191 2 = n) (h1 : L1 I V n k) (hv : v = 0 ∨ v = 1)
    (hQ : ∀ I' : IM, (∀ q, q ≠ 196 → q ≠ 197 → I' q = I q) → (∀ j : Int, 0 ≤ j → j < 144 → isE V j = true → I' 196 (rkI V j) = I 196 (rkI V j) + (cE V k j (lD V k + 1) : Nat) ∧ I' 197 (rkI V j) = I 197 (rkI V j) + (if v = 0 then (cE V k j (lD V k + 1) : Int) else 0)) → Q (.inl none) (ME e I' J)) : SX4_countEdges [.ref 191, .int (i32 v)] (ME e I J) Q := by
  refine x_in (Nat.le_of_ble_eq_true rfl) ?_
  dsimp only [bX4_countEdges, bX4_countEdges_0]
  have hE := (isL_E hL).1
  have dd := lD_ok hG hE
  have z1 := h1.1
  (repeat' first | ((with_reducible apply x_gR); rfl; rfl) | ((with_reducible apply x_gRs hq); rfl) | ((with_reducible refine x_gI ?_ ?_); rfl; try simp only [Int.cast_ofNat_Int]) | ((with_reducible refine x_gIs hq ?_); try simp only [Int.cast_ofNat_Int]) | ((with_reducible refine x_ob ?_ ?_); rfl) | (with_reducible refine x_obs hq ?_) | (with_reducible refine x_lI ?_) | (with_reducible refine x_lJ ?_) | (with_reducible refine x_le (by omega) (by omega) (fun h => ?_) (fun h => ?_)) | (with_reducible refine x_lt (by omega) (by omega) (fun h => ?_) (fun h => ?_)) | (with_reducible refine x_eq (by omega) (by omega) (fun h => ?_) (fun h => ?_)) | (with_reducible refine x_brT ?_) | (with_reducible refine x_brF ?_) | (with_reducible refine x_rI ?_) | (with_reducible refine x_rV ?_) | (with_reducible refine x_rJ ?_) | (with_reducible refine x_rZ (by omega) ?_) | (with_reducible refine x_rO ?_) | (with_reducible refine x_thr ?_) | ((with_reducible refine x_pI ?_ ?_); rfl; try simp only [Int.cast_ofNat_Int]) | ((with_reducible refine x_pIs hq ?_); try simp only [Int.cast_ofNat_Int]) | ((with_reducible refine x_pZ ?_ (by omega) ?_); rfl; try simp only [Int.cast_ofNat_Int]) | ((with_reducible refine x_pZs hq (by omega) ?_); try simp only [Int.cast_ofNat_Int]) | (with_reducible refine x_pR ?_) | ((with_reducible apply x_aI); (first | assumption | rfl | exact (kb_st _ hq).2.1 | exact (kb_st _ hq).2.2.1 _ (by omega) (by omega) | exact (kb_st _ hq).2.2.2.1 _ (by omega) (by omega)); omega; omega; omega) | ((with_reducible apply x_sA); (first | assumption | rfl | exact (kb_st _ hq).2.1 | exact (kb_st _ hq).2.2.1 _ (by omega) (by omega) | exact (kb_st _ hq).2.2.2.1 _ (by omega) (by omega)); omega; omega; omega) | ((with_reducible apply x_aL); (first | assumption | rfl | exact (kb_st _ hq).2.1 | exact (kb_st _ hq).2.2.1 _ (by omega) (by omega) | exact (kb_st _ hq).2.2.2.1 _ (by omega) (by omega)); omega) | ((with_reducible apply x_cI); (with_reducible apply sp_X10_cell); (first | assumption | rfl | exact (kb_st _ hq).2.1 | exact (kb_st _ hq).2.2.1 _ (by omega) (by omega) | exact (kb_st _ hq).2.2.2.1 _ (by omega) (by omega)); omega; omega; omega; omega) | ((with_reducible apply x_aB); rfl; omega; omega; omega; omega) | ((with_reducible apply x_sZ); rfl; omega; omega; omega; omega) | ((with_reducible refine x_nz ?_ ?_ ?_ ?_); omega; omega; omega) | ((with_reducible refine x_nzl ?_ ?_ ?_ ?_); omega; omega; omega) | (simp (disch := omega) only [Int.cast_ofNat_Int, Int.natCast_add, Int.toNat_natCast, i32_add, i32_sub, i32_mul, i32_neg, i32_lit, i64_add, i64_sub, i64_mul, i64_neg, i64_lit, i64_int, hI, z1, i32_long, up_self, up_q, up_k]))
  refine x_for (lD V k + 1) (fun i av μ => ∃ I' : IM, av = [.ref 191, .int (i32 v), .int (i32 ((lD V k : Int) + 1)), .int (i32 i)] ∧ μ = ME e I' J ∧ (∀ q, q ≠ 196 → q ≠ 197 → I' q = I q) ∧ (∀ j : Int, 0 ≤ j → j < 144 → isE V j = true → I' 196 (rkI V j) = I 196 (rkI V j) + (cE V k j i : Nat) ∧ I' 197 (rkI V j) = I 197 (rkI V j) + (if v = 0 then (cE V k j i : Int) else 0))) ?_ ?_ (Nat.zero_le _) ⟨I, (by simp only [Int.cast_ofNat_Int, Int.natCast_add, Int.toNat_natCast, i32_add, i32_sub, i32_mul, i32_neg, i32_lit, i64_add, i64_sub, i64_mul, i64_neg, i64_lit, i64_int]), rfl, fun _ _ _ => rfl, fun j a b c => by simp [cE]⟩
  · rintro i av μ hi ⟨I', rfl, rfl, hf, hs⟩ hJ
    dsimp only [bX4_countEdges, bX4_countEdges_1]
    have z1 : I' 192 n = lD V k + 1 := by rw [hf 192 (by omega) (by omega)]; exact h1.1
    have n2 : I' 191 2 = n := by rw [hf 191 (by omega) (by omega)]; exact hI
    have mk : ∀ j : Nat, j ≤ lD V k → I' 195 (12 * n + j) = lM V k j := fun j hj => by rw [hf 195 (by omega) (by omega)]; exact h1.2.2.2 j hj
    have mi := mk i (by omega)
    have mio := lM_ok hG hE (i := i) (by omega)
    have m0 := mk 0 (by omega)
    have m0o := lM_ok hG hE (i := 0) (by omega)
    have lo := lE_ok hG hL (i := i) (by omega)
    have lr := gd_E hG (isE_iff.mp lo.1)
    have rr := rkI_rg hG lr.2.1 lr.2.2.1 lo.1
    have hM' : Md I' V := by
      unfold Md M1 at *
      rw [hf 171 (by omega) (by omega), hf 172 (by omega) (by omega), hf 173 (by omega) (by omega), hf 174 (by omega) (by omega), hf 175 (by omega) (by omega), hf 176 (by omega) (by omega), hf 177 (by omega) (by omega), hf 178 (by omega) (by omega), hf 179 (by omega) (by omega), hf 180 (by omega) (by omega), hf 181 (by omega) (by omega), hf 182 (by omega) (by omega), hf 183 (by omega) (by omega)]
      exact hM
    have bt := hM'.betw hG lr.2.1 lr.2.2.1 lo.1
    have hstep : ∀ j : Int, 0 ≤ j → j < 144 → isE V j = true → cE V k j (i + 1) = cE V k j i + (if lE V k i = j then 1 else 0) := fun _ _ _ _ => rfl
    have hif : (if 0 ≤ (i : Int) ∧ (i : Int) < (lD V k : Int) + 1 then I' 195 (12 * (n : Int) + (i : Int)) else -1) = lM V k i := by rw [if_pos (by omega)]; exact mi
    have hif0 : (if 0 ≤ (0 : Int) ∧ (0 : Int) < (lD V k : Int) + 1 then I' 195 (12 * (n : Int) + 0) else -1) = lM V k 0 := by rw [if_pos (by omega)]; exact m0
    have hend : ∀ I3 : IM, (∀ q, q ≠ 196 → q ≠ 197 → I3 q = I' q) → (∀ j : Int, 0 ≤ j → j < 144 → isE V j = true → I3 196 (rkI V j) = I' 196 (rkI V j) + (if lE V k i = j then 1 else 0) ∧ I3 197 (rkI V j) = I' 197 (rkI V j) + (if v = 0 then (if lE V k i = j then 1 else 0) else 0)) → fx bX4_countEdges 1 [.ref 191, .int (i32 v), .int (i32 ((lD V k : Int) + 1)), .int (i32 ((i : Int) + 1))] (ME e I3 J) Q := by
      intro I3 g1 g2
      apply hJ
      refine ⟨I3, (by simp only [Int.cast_ofNat_Int, Int.natCast_add, Int.toNat_natCast, i32_add, i32_sub, i32_mul, i32_neg, i32_lit, i64_add, i64_sub, i64_mul, i64_neg, i64_lit, i64_int]), rfl, fun q a b => by rw [g1 q a b, hf q a b], fun j a b c => ?_⟩
      have s1 := hs j a b c
      have s2 := g2 j a b c
      rw [hstep j a b c, s2.1, s2.2, s1.1, s1.2]
      constructor
      · split <;> omega
      · rcases Decidable.em (v = 0) with h | h
        · simp only [if_pos h]; split <;> omega
        · simp only [if_neg h]; omega
    have up1 : ∀ (I0 : IM) (q : Nat) (w : Int) (j : Int), 0 ≤ j → j < 144 → isE V j = true → up I0 q (rkI V (lE V k i)) (I0 q (rkI V (lE V k i)) + w) q (rkI V j) = I0 q (rkI V j) + (if lE V k i = j then w else 0) := by
      intro I0 q w j a b c
      by_cases hj : lE V k i = j
      · subst hj; rw [up_self, if_pos rfl]
      · rw [if_neg hj, up_k (fun q => hj (rkI_inj lr.2.1 a lo.1 c q.symm))]; omega
    by_cases hil : i < lD V k
    · have m1 := mk (i + 1) (by omega)
      have m1o := lM_ok hG hE (i := i + 1) (by omega)
      have hif1 : (if 0 ≤ (i : Int) + 1 ∧ (i : Int) + 1 < (lD V k : Int) + 1 then I' 195 (12 * (n : Int) + ((i : Int) + 1)) else -1) = lM V k (i + 1) := by rw [if_pos (by omega)]; exact m1
      have hb : (if lM V k i = lM V k (i + 1) then -1 else I' 175 (pq (lM V k i) (lM V k (i + 1)))) = rkI V (lE V k i) := by
        rw [if_neg (lM_ne hG hL hil), ← lE_pq hG hL hil]; exact bt
      unfold mark12 at mio m1o
      (repeat' first | ((with_reducible apply x_gR); rfl; rfl) | ((with_reducible apply x_gRs hq); rfl) | ((with_reducible refine x_gI ?_ ?_); rfl; try simp only [Int.cast_ofNat_Int]) | ((with_reducible refine x_gIs hq ?_); try simp only [Int.cast_ofNat_Int]) | ((with_reducible refine x_ob ?_ ?_); rfl) | (with_reducible refine x_obs hq ?_) | (with_reducible refine x_lI ?_) | (with_reducible refine x_lJ ?_) | (with_reducible refine x_le (by omega) (by omega) (fun h => ?_) (fun h => ?_)) | (with_reducible refine x_lt (by omega) (by omega) (fun h => ?_) (fun h => ?_)) | (with_reducible refine x_eq (by omega) (by omega) (fun h => ?_) (fun h => ?_)) | (with_reducible refine x_brT ?_) | (with_reducible refine x_brF ?_) | (with_reducible refine x_rI ?_) | (with_reducible refine x_rV ?_) | (with_reducible refine x_rJ ?_) | (with_reducible refine x_rZ (by omega) ?_) | (with_reducible refine x_rO ?_) | (with_reducible refine x_thr ?_) | ((with_reducible refine x_pI ?_ ?_); rfl; try simp only [Int.cast_ofNat_Int]) | ((with_reducible refine x_pIs hq ?_); try simp only [Int.cast_ofNat_Int]) | ((with_reducible refine x_pZ ?_ (by omega) ?_); rfl; try simp only [Int.cast_ofNat_Int]) | ((with_reducible refine x_pZs hq (by omega) ?_); try simp only [Int.cast_ofNat_Int]) | (with_reducible refine x_pR ?_) | ((with_reducible apply x_aI); (first | assumption | rfl | exact (kb_st _ hq).2.1 | exact (kb_st _ hq).2.2.1 _ (by omega) (by omega) | exact (kb_st _ hq).2.2.2.1 _ (by omega) (by omega)); omega; omega; omega) | ((with_reducible apply x_sA); (first | assumption | rfl | exact (kb_st _ hq).2.1 | exact (kb_st _ hq).2.2.1 _ (by omega) (by omega) | exact (kb_st _ hq).2.2.2.1 _ (by omega) (by omega)); omega; omega; omega) | ((with_reducible apply x_aL); (first | assumption | rfl | exact (kb_st _ hq).2.1 | exact (kb_st _ hq).2.2.1 _ (by omega) (by omega) | exact (kb_st _ hq).2.2.2.1 _ (by omega) (by omega)); omega) | ((with_reducible apply x_cI); (with_reducible apply sp_X10_cell); (first | assumption | rfl | exact (kb_st _ hq).2.1 | exact (kb_st _ hq).2.2.1 _ (by omega) (by omega) | exact (kb_st _ hq).2.2.2.1 _ (by omega) (by omega)); omega; omega; omega; omega) | ((with_reducible apply x_cI); (with_reducible apply sp_X4_markAt); omega; assumption; omega; omega) | ((with_reducible refine x_cI (sp_X0_between (k := 0) ?_ ?_ ?_)); omega; omega) | ((with_reducible apply x_cV); (with_reducible apply sp_X10_addTo); (first | assumption | rfl | exact (kb_st _ hq).2.1 | exact (kb_st _ hq).2.2.1 _ (by omega) (by omega) | exact (kb_st _ hq).2.2.2.1 _ (by omega) (by omega)); omega; omega; omega; omega) | ((with_reducible apply x_aB); rfl; omega; omega; omega; omega) | ((with_reducible apply x_sZ); rfl; omega; omega; omega; omega) | ((with_reducible refine x_nz ?_ ?_ ?_ ?_); omega; omega; omega) | ((with_reducible refine x_nzl ?_ ?_ ?_ ?_); omega; omega; omega) | (simp (disch := omega) only [Int.cast_ofNat_Int, Int.natCast_add, Int.toNat_natCast, i32_add, i32_sub, i32_mul, i32_neg, i32_lit, i64_add, i64_sub, i64_mul, i64_neg, i64_lit, i64_int, n2, hif, hif1, hb, i32_long, up_self, up_q, up_k]))
      all_goals (try omega)
      · refine hend _ (fun q a b => by rw [up_ne_q b, up_ne_q a]) fun j a b c => ?_
        have u1 := up1 I' 196 1 j a b c
        have e0 : ∀ x w, up I' 196 x w 197 = I' 197 := fun x w => up_ne_q (by decide)
        have u2 := up1 (up I' 196 (rkI V (lE V k i)) (I' 196 (rkI V (lE V k i)) + 1)) 197 1 j a b c
        rw [e0] at u2
        rw [if_pos h]
        exact ⟨by rw [up_ne_q (by omega)]; exact u1, u2⟩
      · refine hend _ (fun q a b => by rw [up_ne_q a]) fun j a b c => ⟨up1 I' 196 1 j a b c, ?_⟩
        rw [up_ne_q (by omega), if_neg (by omega)]; omega
    · have hil2 : i = lD V k := by omega
      have hb : (if lM V k i = lM V k 0 then -1 else I' 175 (pq (lM V k i) (lM V k 0))) = rkI V (lE V k i) := by
        rw [hil2, if_neg (lM_last_ne hG hL), ← lE_last hG hL, ← hil2]; exact bt
      unfold mark12 at mio m0o
      (repeat' first | ((with_reducible apply x_gR); rfl; rfl) | ((with_reducible apply x_gRs hq); rfl) | ((with_reducible refine x_gI ?_ ?_); rfl; try simp only [Int.cast_ofNat_Int]) | ((with_reducible refine x_gIs hq ?_); try simp only [Int.cast_ofNat_Int]) | ((with_reducible refine x_ob ?_ ?_); rfl) | (with_reducible refine x_obs hq ?_) | (with_reducible refine x_lI ?_) | (with_reducible refine x_lJ ?_) | (with_reducible refine x_le (by omega) (by omega) (fun h => ?_) (fun h => ?_)) | (with_reducible refine x_lt (by omega) (by omega) (fun h => ?_) (fun h => ?_)) | (with_reducible refine x_eq (by omega) (by omega) (fun h => ?_) (fun h => ?_)) | (with_reducible refine x_brT ?_) | (with_reducible refine x_brF ?_) | (with_reducible refine x_rI ?_) | (with_reducible refine x_rV ?_) | (with_reducible refine x_rJ ?_) | (with_reducible refine x_rZ (by omega) ?_) | (with_reducible refine x_rO ?_) | (with_reducible refine x_thr ?_) | ((with_reducible refine x_pI ?_ ?_); rfl; try simp only [Int.cast_ofNat_Int]) | ((with_reducible refine x_pIs hq ?_); try simp only [Int.cast_ofNat_Int]) | ((with_reducible refine x_pZ ?_ (by omega) ?_); rfl; try simp only [Int.cast_ofNat_Int]) | ((with_reducible refine x_pZs hq (by omega) ?_); try simp only [Int.cast_ofNat_Int]) | (with_reducible refine x_pR ?_) | ((with_reducible apply x_aI); (first | assumption | rfl | exact (kb_st _ hq).2.1 | exact (kb_st _ hq).2.2.1 _ (by omega) (by omega) | exact (kb_st _ hq).2.2.2.1 _ (by omega) (by omega)); omega; omega; omega) | ((with_reducible apply x_sA); (first | assumption | rfl | exact (kb_st _ hq).2.1 | exact (kb_st _ hq).2.2.1 _ (by omega) (by omega) | exact (kb_st _ hq).2.2.2.1 _ (by omega) (by omega)); omega; omega; omega) | ((with_reducible apply x_aL); (first | assumption | rfl | exact (kb_st _ hq).2.1 | exact (kb_st _ hq).2.2.1 _ (by omega) (by omega) | exact (kb_st _ hq).2.2.2.1 _ (by omega) (by omega)); omega) | ((with_reducible apply x_cI); (with_reducible apply sp_X10_cell); (first | assumption | rfl | exact (kb_st _ hq).2.1 | exact (kb_st _ hq).2.2.1 _ (by omega) (by omega) | exact (kb_st _ hq).2.2.2.1 _ (by omega) (by omega)); omega; omega; omega; omega) | ((with_reducible apply x_cI); (with_reducible apply sp_X4_markAt); omega; assumption; omega; omega) | ((with_reducible refine x_cI (sp_X0_between (k := 0) ?_ ?_ ?_)); omega; omega) | ((with_reducible apply x_cV); (with_reducible apply sp_X10_addTo); (first | assumption | rfl | exact (kb_st _ hq).2.1 | exact (kb_st _ hq).2.2.1 _ (by omega) (by omega) | exact (kb_st _ hq).2.2.2.1 _ (by omega) (by omega)); omega; omega; omega; omega) | ((with_reducible apply x_aB); rfl; omega; omega; omega; omega) | ((with_reducible apply x_sZ); rfl; omega; omega; omega; omega) | ((with_reducible refine x_nz ?_ ?_ ?_ ?_); omega; omega; omega) | ((with_reducible refine x_nzl ?_ ?_ ?_ ?_); omega; omega; omega) | (simp (disch := omega) only [Int.cast_ofNat_Int, Int.natCast_add, Int.toNat_natCast, i32_add, i32_sub, i32_mul, i32_neg, i32_lit, i64_add, i64_sub, i64_mul, i64_neg, i64_lit, i64_int, n2, hif, hif0, hb, i32_long, up_self, up_q, up_k]))
      all_goals (try omega)
      · refine hend _ (fun q a b => by rw [up_ne_q b, up_ne_q a]) fun j a b c => ?_
        have u1 := up1 I' 196 1 j a b c
        have e0 : ∀ x w, up I' 196 x w 197 = I' 197 := fun x w => up_ne_q (by decide)
        have u2 := up1 (up I' 196 (rkI V (lE V k i)) (I' 196 (rkI V (lE V k i)) + 1)) 197 1 j a b c
        rw [e0] at u2
        rw [if_pos h]
        exact ⟨by rw [up_ne_q (by omega)]; exact u1, u2⟩
      · refine hend _ (fun q a b => by rw [up_ne_q a]) fun j a b c => ⟨up1 I' 196 1 j a b c, ?_⟩
        rw [up_ne_q (by omega), if_neg (by omega)]; omega
  · rintro av μ ⟨I', rfl, rfl, hf, hs⟩
    dsimp only [bX4_countEdges, bX4_countEdges_1]
    (repeat' first | ((with_reducible apply x_gR); rfl; rfl) | ((with_reducible apply x_gRs hq); rfl) | ((with_reducible refine x_gI ?_ ?_); rfl; try simp only [Int.cast_ofNat_Int]) | ((with_reducible refine x_gIs hq ?_); try simp only [Int.cast_ofNat_Int]) | ((with_reducible refine x_ob ?_ ?_); rfl) | (with_reducible refine x_obs hq ?_) | (with_reducible refine x_lI ?_) | (with_reducible refine x_lJ ?_) | (with_reducible refine x_le (by omega) (by omega) (fun h => ?_) (fun h => ?_)) | (with_reducible refine x_lt (by omega) (by omega) (fun h => ?_) (fun h => ?_)) | (with_reducible refine x_eq (by omega) (by omega) (fun h => ?_) (fun h => ?_)) | (with_reducible refine x_brT ?_) | (with_reducible refine x_brF ?_) | (with_reducible refine x_rI ?_) | (with_reducible refine x_rV ?_) | (with_reducible refine x_rJ ?_) | (with_reducible refine x_rZ (by omega) ?_) | (with_reducible refine x_rO ?_) | (with_reducible refine x_thr ?_) | ((with_reducible refine x_pI ?_ ?_); rfl; try simp only [Int.cast_ofNat_Int]) | ((with_reducible refine x_pIs hq ?_); try simp only [Int.cast_ofNat_Int]) | ((with_reducible refine x_pZ ?_ (by omega) ?_); rfl; try simp only [Int.cast_ofNat_Int]) | ((with_reducible refine x_pZs hq (by omega) ?_); try simp only [Int.cast_ofNat_Int]) | (with_reducible refine x_pR ?_) | ((with_reducible apply x_aI); (first | assumption | rfl | exact (kb_st _ hq).2.1 | exact (kb_st _ hq).2.2.1 _ (by omega) (by omega) | exact (kb_st _ hq).2.2.2.1 _ (by omega) (by omega)); omega; omega; omega) | ((with_reducible apply x_sA); (first | assumption | rfl | exact (kb_st _ hq).2.1 | exact (kb_st _ hq).2.2.1 _ (by omega) (by omega) | exact (kb_st _ hq).2.2.2.1 _ (by omega) (by omega)); omega; omega; omega) | ((with_reducible apply x_aL); (first | assumption | rfl | exact (kb_st _ hq).2.1 | exact (kb_st _ hq).2.2.1 _ (by omega) (by omega) | exact (kb_st _ hq).2.2.2.1 _ (by omega) (by omega)); omega) | ((with_reducible apply x_aB); rfl; omega; omega; omega; omega) | ((with_reducible apply x_sZ); rfl; omega; omega; omega; omega) | ((with_reducible refine x_nz ?_ ?_ ?_ ?_); omega; omega; omega) | ((with_reducible refine x_nzl ?_ ?_ ?_ ?_); omega; omega; omega) | (simp (disch := omega) only [Int.cast_ofNat_Int, Int.natCast_add, Int.toNat_natCast, i32_add, i32_sub, i32_mul, i32_neg, i32_lit, i64_add, i64_sub, i64_mul, i64_neg, i64_lit, i64_int, i32_long, up_self, up_q, up_k]))
    all_goals (try omega)
    exact hQ I' hf hs
end CL56
