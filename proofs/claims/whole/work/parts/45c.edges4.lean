section Edges47
variable {e : Nat} {I J : IM} {Q : Post} {V : Vw} {s v a b : Int}
/-- the edges are numbered below pair K -/
def Nb (I : IM) (V : Vw) (K : Nat) : Prop :=
  I 171 3 = rk V K ∧ (∀ k : Nat, k < K → isE V k = true → I 176 (rk V k) = (k : Int) / 12 ∧ I 177 (rk V k) = (k : Int) % 12 ∧ I 178 (rk V k) = dk V k ∧ I 179 (rk V k) = 0 ∧ I 180 (rk V k) = 0 ∧ I 181 (rk V k) = 0 ∧ I 182 (rk V k) = 0 ∧ I 183 (rk V k) = 0) ∧
  ∀ k : Nat, k < 144 → I 175 k = if isE V k = true then (if k < K then (rk V k : Int) else 0) else -1
theorem rk_succ {k : Nat} : rk V (k + 1) = rk V k + (if isE V k = true then 1 else 0) := rfl
theorem rk_flat {K K' : Nat} (h : K ≤ K') (hn : ∀ j : Nat, K ≤ j → j < K' → isE V j = false) : rk V K' = rk V K := by
  obtain ⟨d, rfl⟩ : ∃ d, K' = K + d := ⟨K' - K, by omega⟩
  induction d with
  | zero => rfl
  | succ d ih =>
    rw [show K + (d + 1) = (K + d) + 1 by omega, rk_succ, hn (K + d) (by omega) (by omega), ih (by omega) (fun j h1 h2 => hn j h1 (by omega))]
    simp
theorem Nb.skip {I : IM} {K K' : Nat} (h : Nb I V K) (hK : K ≤ K') (hn : ∀ j : Nat, K ≤ j → j < K' → isE V j = false) : Nb I V K' := by
  refine ⟨by rw [rk_flat hK hn]; exact h.1, fun k hk hE => ?_, fun k hk => ?_⟩
  · refine h.2.1 k ?_ hE
    rcases Nat.lt_or_ge k K with h1 | h1
    · exact h1
    · rw [hn k h1 hk] at hE; exact absurd hE (by decide)
  · rw [h.2.2 k hk]
    by_cases hE : isE V k = true
    · rw [if_pos hE, if_pos hE]
      rcases Nat.lt_or_ge k K with h1 | h1
      · rw [if_pos h1, if_pos (by omega)]
      · rw [if_neg (by omega)]
        rcases Nat.lt_or_ge k K' with h2 | h2
        · rw [hn k h1 h2] at hE; exact absurd hE (by decide)
        · rw [if_neg (by omega)]
    · rw [if_neg hE, if_neg hE]
theorem rk_lt40 (hG : Good V) {k : Nat} (hk : k < 144) (hE : isE V k = true) : rk V k < 40 := by
  have h1 := rk_n V (k + 1)
  have h2 := hG.2.1
  rw [rk_succ, if_pos hE] at h1
  omega
theorem sp_X0_addEdge (hq : e ∈ stLs) (hG : Good V) (hW : Rwl I 5 V) {k : Nat} (hk : k < 144) (hE : isE V k = true) (hN : Nb I V k) (ha : a = (k : Int) / 12) (hb : b = (k : Int) % 12)
    (hQ : ∀ I' : IM, (∀ q, q < 171 ∨ 183 < q ∨ (171 < q ∧ q < 175) → I' q = I q) → (∀ j : Int, j ≠ 3 → I' 171 j = I 171 j) → Nb I' V (k + 1) → Q (.inl none) (ME e I' J)) : SX0_addEdge [.ref 171, .int (i32 a), .int (i32 b)] (ME e I J) Q := by
  subst ha
  subst hb
  refine x_in (Nat.le_of_ble_eq_true rfl) ?_
  dsimp only [bX0_addEdge, bX0_addEdge_0]
  have m := hG.1
  have n := hG.2.1
  have hc := gd_E hG (isE_iff.mp hE)
  have r := rk_lt40 hG hk hE
  have f3 := hN.1
  have hp : pq ((k : Int) / 12) ((k : Int) % 12) = k := pq_self (by omega) hc.2.2.2.2.1
  have hp2 : (if (k : Int) / 12 < (k : Int) % 12 then 12 * ((k : Int) / 12) + (k : Int) % 12 else 12 * ((k : Int) % 12) + (k : Int) / 12) = k := hp
  (repeat' first | ((with_reducible apply x_gR); rfl; rfl) | ((with_reducible apply x_gRs hq); rfl) | ((with_reducible refine x_gI ?_ ?_); rfl; try simp only [Int.cast_ofNat_Int]) | ((with_reducible refine x_gIs hq ?_); try simp only [Int.cast_ofNat_Int]) | ((with_reducible refine x_ob ?_ ?_); rfl) | (with_reducible refine x_obs hq ?_) | (with_reducible refine x_lI ?_) | (with_reducible refine x_lJ ?_) | (with_reducible refine x_le (by omega) (by omega) (fun h => ?_) (fun h => ?_)) | (with_reducible refine x_lt (by omega) (by omega) (fun h => ?_) (fun h => ?_)) | (with_reducible refine x_eq (by omega) (by omega) (fun h => ?_) (fun h => ?_)) | (with_reducible refine x_brT ?_) | (with_reducible refine x_brF ?_) | (with_reducible refine x_rI ?_) | (with_reducible refine x_rV ?_) | (with_reducible refine x_rJ ?_) | (with_reducible refine x_rZ (by omega) ?_) | (with_reducible refine x_rO ?_) | (with_reducible refine x_thr ?_) | ((with_reducible refine x_pI ?_ ?_); rfl; try simp only [Int.cast_ofNat_Int]) | ((with_reducible refine x_pIs hq ?_); try simp only [Int.cast_ofNat_Int]) | ((with_reducible refine x_pZ ?_ (by omega) ?_); rfl; try simp only [Int.cast_ofNat_Int]) | ((with_reducible refine x_pZs hq (by omega) ?_); try simp only [Int.cast_ofNat_Int]) | (with_reducible refine x_pR ?_) | ((with_reducible apply x_aI); (first | assumption | rfl | exact (kb_st _ hq).2.1 | exact (kb_st _ hq).2.2.1 _ (by omega) (by omega) | exact (kb_st _ hq).2.2.2.1 _ (by omega) (by omega)); omega; omega; omega) | ((with_reducible apply x_sA); (first | assumption | rfl | exact (kb_st _ hq).2.1 | exact (kb_st _ hq).2.2.1 _ (by omega) (by omega) | exact (kb_st _ hq).2.2.2.1 _ (by omega) (by omega)); omega; omega; omega) | ((with_reducible apply x_aL); (first | assumption | rfl | exact (kb_st _ hq).2.1 | exact (kb_st _ hq).2.2.1 _ (by omega) (by omega) | exact (kb_st _ hq).2.2.2.1 _ (by omega) (by omega)); omega) | ((with_reducible refine x_cI (sp_X10_pairOf ?_ ?_ ?_)); omega; omega) | ((with_reducible apply x_cV); (with_reducible apply sp_X10_put); (first | assumption | rfl | exact (kb_st _ hq).2.1 | exact (kb_st _ hq).2.2.1 _ (by omega) (by omega) | exact (kb_st _ hq).2.2.2.1 _ (by omega) (by omega)); omega; omega; omega; omega) | ((with_reducible refine x_cI (sp_X9_distance ?_ hG ?_ ?_ ?_ ?_)); exact ⟨rfl, rfl, rfl⟩; (focus (repeat' first | assumption | exact Rst.up (by assumption) (by omega) | refine Rst.up ?_ (by omega) | refine Rwl.up ?_ (by omega) | refine Rrw.up ?_ (by omega))); omega; omega) | ((with_reducible apply x_aB); rfl; omega; omega; omega; omega) | ((with_reducible apply x_sZ); rfl; omega; omega; omega; omega) | ((with_reducible refine x_nz ?_ ?_ ?_ ?_); omega; omega; omega) | ((with_reducible refine x_nzl ?_ ?_ ?_ ?_); omega; omega; omega) | (simp (disch := omega) only [Int.cast_ofNat_Int, Int.natCast_add, Int.toNat_natCast, i32_add, i32_sub, i32_mul, i32_neg, i32_lit, i64_add, i64_sub, i64_mul, i64_neg, i64_lit, i64_int, hp2, f3, i32_long, up_self, up_q, up_k]))
  refine hQ _ (fun q h => ?_) (fun j h => ?_) ⟨?_, fun j hj hEj => ?_, fun j hj => ?_⟩
  · simp (disch := omega) only [up_ne_q]
  · simp (disch := omega) only [up_ne_q, up_k]
  · rw [up_self, rk_succ, if_pos hE]; omega
  · by_cases hjk : j = k
    · subst hjk
      refine ⟨?_, ?_, ?_, ?_, ?_, ?_, ?_, ?_⟩ <;> simp (disch := omega) only [up_q, up_self] <;> rfl
    · have h1 := hN.2.1 j (by omega) hEj
      have h2 : rk V j ≠ rk V k := fun h => hjk (ct_inj hEj hE h)
      have h3 : (rk V j : Int) ≠ (rk V k : Int) := by omega
      simp (disch := omega) only [up_q, up_k]
      exact h1
  · simp (disch := omega) only [up_q]
    by_cases hjk : j = k
    · subst hjk
      rw [up_self, if_pos hE, if_pos (by omega)]
    · have h3 : (j : Int) ≠ (k : Int) := by omega
      rw [up_k h3, hN.2.2 j hj]
      by_cases hEj : isE V j = true
      · rw [if_pos hEj, if_pos hEj]
        by_cases hlt : j < k
        · rw [if_pos hlt, if_pos (by omega)]
        · rw [if_neg hlt, if_neg (by omega)]
      · rw [if_neg hEj, if_neg hEj]
theorem sp_X0_numberEdges (hq : e ∈ stLs) (hG : Good V) (hW : Rwl I 5 V) (h5 : ∀ k : Int, 0 ≤ k → k < 144 → I 175 k = if isE V k = true then 0 else -1)
    (hQ : ∀ I' : IM, (∀ q, q < 171 ∨ 183 < q ∨ (171 < q ∧ q < 175) → I' q = I q) → (∀ j : Int, j ≠ 3 → I' 171 j = I 171 j) → Nb I' V 144 → Q (.inl none) (ME e I' J)) : SX0_numberEdges [.ref 171] (ME e I J) Q := by
  refine x_in (Nat.le_of_ble_eq_true rfl) ?_
  dsimp only [bX0_numberEdges, bX0_numberEdges_0]
  have m := hG.1
  have hw0 := hW.1
  (repeat' first | ((with_reducible apply x_gR); rfl; rfl) | ((with_reducible apply x_gRs hq); rfl) | ((with_reducible refine x_gI ?_ ?_); rfl; try simp only [Int.cast_ofNat_Int]) | ((with_reducible refine x_gIs hq ?_); try simp only [Int.cast_ofNat_Int]) | ((with_reducible refine x_ob ?_ ?_); rfl) | (with_reducible refine x_obs hq ?_) | (with_reducible refine x_lI ?_) | (with_reducible refine x_lJ ?_) | (with_reducible refine x_le (by omega) (by omega) (fun h => ?_) (fun h => ?_)) | (with_reducible refine x_lt (by omega) (by omega) (fun h => ?_) (fun h => ?_)) | (with_reducible refine x_eq (by omega) (by omega) (fun h => ?_) (fun h => ?_)) | (with_reducible refine x_brT ?_) | (with_reducible refine x_brF ?_) | (with_reducible refine x_rI ?_) | (with_reducible refine x_rV ?_) | (with_reducible refine x_rJ ?_) | (with_reducible refine x_rZ (by omega) ?_) | (with_reducible refine x_rO ?_) | (with_reducible refine x_thr ?_) | ((with_reducible refine x_pI ?_ ?_); rfl; try simp only [Int.cast_ofNat_Int]) | ((with_reducible refine x_pIs hq ?_); try simp only [Int.cast_ofNat_Int]) | ((with_reducible refine x_pZ ?_ (by omega) ?_); rfl; try simp only [Int.cast_ofNat_Int]) | ((with_reducible refine x_pZs hq (by omega) ?_); try simp only [Int.cast_ofNat_Int]) | (with_reducible refine x_pR ?_) | ((with_reducible apply x_aI); (first | assumption | rfl | exact (kb_st _ hq).2.1 | exact (kb_st _ hq).2.2.1 _ (by omega) (by omega) | exact (kb_st _ hq).2.2.2.1 _ (by omega) (by omega)); omega; omega; omega) | ((with_reducible apply x_sA); (first | assumption | rfl | exact (kb_st _ hq).2.1 | exact (kb_st _ hq).2.2.1 _ (by omega) (by omega) | exact (kb_st _ hq).2.2.2.1 _ (by omega) (by omega)); omega; omega; omega) | ((with_reducible apply x_aL); (first | assumption | rfl | exact (kb_st _ hq).2.1 | exact (kb_st _ hq).2.2.1 _ (by omega) (by omega) | exact (kb_st _ hq).2.2.2.1 _ (by omega) (by omega)); omega) | ((with_reducible apply x_aB); rfl; omega; omega; omega; omega) | ((with_reducible apply x_sZ); rfl; omega; omega; omega; omega) | ((with_reducible refine x_nz ?_ ?_ ?_ ?_); omega; omega; omega) | ((with_reducible refine x_nzl ?_ ?_ ?_ ?_); omega; omega; omega) | (simp (disch := omega) only [Int.cast_ofNat_Int, Int.natCast_add, Int.toNat_natCast, i32_add, i32_sub, i32_mul, i32_neg, i32_lit, i64_add, i64_sub, i64_mul, i64_neg, i64_lit, i64_int, i32_long, up_self, up_q, up_k]))
  refine x_for (vm V) (fun i a μ => ∃ I' : IM, a = [.ref 171, .int (i32 i)] ∧ μ = ME e I' J ∧ (∀ q, q < 171 ∨ 183 < q ∨ (171 < q ∧ q < 175) → I' q = I q) ∧ (∀ j : Int, j ≠ 3 → I' 171 j = I 171 j) ∧ Nb I' V (12 * i)) ?_ ?_ (Nat.zero_le _) ⟨_, (by simp only [Int.cast_ofNat_Int, Int.natCast_add, Int.toNat_natCast, i32_add, i32_sub, i32_mul, i32_neg, i32_lit, i64_add, i64_sub, i64_mul, i64_neg, i64_lit, i64_int]), rfl, fun q h => up_ne_q (by omega), fun j h => up_k h, ⟨up_self, fun k h => by omega, fun k h => ?_⟩⟩
  · rintro i a μ hi ⟨I', rfl, rfl, hf, hf1, hN⟩ hJ
    dsimp only [bX0_numberEdges, bX0_numberEdges_1]
    have hm : I' 5 0 = vm V := by rw [hf 5 (by omega)]; exact hw0
    (repeat' first | ((with_reducible apply x_gR); rfl; rfl) | ((with_reducible apply x_gRs hq); rfl) | ((with_reducible refine x_gI ?_ ?_); rfl; try simp only [Int.cast_ofNat_Int]) | ((with_reducible refine x_gIs hq ?_); try simp only [Int.cast_ofNat_Int]) | ((with_reducible refine x_ob ?_ ?_); rfl) | (with_reducible refine x_obs hq ?_) | (with_reducible refine x_lI ?_) | (with_reducible refine x_lJ ?_) | (with_reducible refine x_le (by omega) (by omega) (fun h => ?_) (fun h => ?_)) | (with_reducible refine x_lt (by omega) (by omega) (fun h => ?_) (fun h => ?_)) | (with_reducible refine x_eq (by omega) (by omega) (fun h => ?_) (fun h => ?_)) | (with_reducible refine x_brT ?_) | (with_reducible refine x_brF ?_) | (with_reducible refine x_rI ?_) | (with_reducible refine x_rV ?_) | (with_reducible refine x_rJ ?_) | (with_reducible refine x_rZ (by omega) ?_) | (with_reducible refine x_rO ?_) | (with_reducible refine x_thr ?_) | ((with_reducible refine x_pI ?_ ?_); rfl; try simp only [Int.cast_ofNat_Int]) | ((with_reducible refine x_pIs hq ?_); try simp only [Int.cast_ofNat_Int]) | ((with_reducible refine x_pZ ?_ (by omega) ?_); rfl; try simp only [Int.cast_ofNat_Int]) | ((with_reducible refine x_pZs hq (by omega) ?_); try simp only [Int.cast_ofNat_Int]) | (with_reducible refine x_pR ?_) | ((with_reducible apply x_aI); (first | assumption | rfl | exact (kb_st _ hq).2.1 | exact (kb_st _ hq).2.2.1 _ (by omega) (by omega) | exact (kb_st _ hq).2.2.2.1 _ (by omega) (by omega)); omega; omega; omega) | ((with_reducible apply x_sA); (first | assumption | rfl | exact (kb_st _ hq).2.1 | exact (kb_st _ hq).2.2.1 _ (by omega) (by omega) | exact (kb_st _ hq).2.2.2.1 _ (by omega) (by omega)); omega; omega; omega) | ((with_reducible apply x_aL); (first | assumption | rfl | exact (kb_st _ hq).2.1 | exact (kb_st _ hq).2.2.1 _ (by omega) (by omega) | exact (kb_st _ hq).2.2.2.1 _ (by omega) (by omega)); omega) | ((with_reducible apply x_aB); rfl; omega; omega; omega; omega) | ((with_reducible apply x_sZ); rfl; omega; omega; omega; omega) | ((with_reducible refine x_nz ?_ ?_ ?_ ?_); omega; omega; omega) | ((with_reducible refine x_nzl ?_ ?_ ?_ ?_); omega; omega; omega) | (simp (disch := omega) only [Int.cast_ofNat_Int, Int.natCast_add, Int.toNat_natCast, i32_add, i32_sub, i32_mul, i32_neg, i32_lit, i64_add, i64_sub, i64_mul, i64_neg, i64_lit, i64_int, i32_long, up_self, up_q, up_k]))
    · omega
    refine x_for (vm V) (fun b a μ => i < b ∧ ∃ I' : IM, a = [.ref 171, .int (i32 i), .int (i32 b)] ∧ μ = ME e I' J ∧ (∀ q, q < 171 ∨ 183 < q ∨ (171 < q ∧ q < 175) → I' q = I q) ∧ (∀ j : Int, j ≠ 3 → I' 171 j = I 171 j) ∧ Nb I' V (12 * i + b)) ?_ ?_ (i := i + 1) (by omega) ⟨by omega, I', (by simp only [Int.cast_ofNat_Int, Int.natCast_add, Int.toNat_natCast, i32_add, i32_sub, i32_mul, i32_neg, i32_lit, i64_add, i64_sub, i64_mul, i64_neg, i64_lit, i64_int]), rfl, hf, hf1, hN.skip (by omega) fun j h1 h2 => isE_no hG (by omega)⟩
    · rintro b a μ hb ⟨hib, I2, rfl, rfl, hf, hf1, hN⟩ hJ2
      dsimp only [bX0_numberEdges, bX0_numberEdges_2]
      have hm : I2 5 0 = vm V := by rw [hf 5 (by omega)]; exact hw0
      have hp : (if (i : Int) < (b : Int) then 12 * (i : Int) + (b : Int) else 12 * (b : Int) + (i : Int)) = 12 * (i : Int) + (b : Int) := by rw [if_pos (by omega)]
      have h5 := hN.2.2 (12 * i + b) (by omega)
      rw [if_neg (Nat.lt_irrefl (12 * i + b)), show ((12 * i + b : Nat) : Int) = 12 * (i : Int) + (b : Int) by omega] at h5
      have hW2 : Rwl I2 5 V := hW.keep (fun d hd => hf _ (by omega))
      by_cases hE : isE V ((12 * i + b : Nat) : Int) = true
      · have hE2 := hE
        rw [show ((12 * i + b : Nat) : Int) = 12 * (i : Int) + (b : Int) by omega] at hE2
        rw [if_pos hE2] at h5
        (repeat' first | ((with_reducible apply x_gR); rfl; rfl) | ((with_reducible apply x_gRs hq); rfl) | ((with_reducible refine x_gI ?_ ?_); rfl; try simp only [Int.cast_ofNat_Int]) | ((with_reducible refine x_gIs hq ?_); try simp only [Int.cast_ofNat_Int]) | ((with_reducible refine x_ob ?_ ?_); rfl) | (with_reducible refine x_obs hq ?_) | (with_reducible refine x_lI ?_) | (with_reducible refine x_lJ ?_) | (with_reducible refine x_le (by omega) (by omega) (fun h => ?_) (fun h => ?_)) | (with_reducible refine x_lt (by omega) (by omega) (fun h => ?_) (fun h => ?_)) | (with_reducible refine x_eq (by omega) (by omega) (fun h => ?_) (fun h => ?_)) | (with_reducible refine x_brT ?_) | (with_reducible refine x_brF ?_) | (with_reducible refine x_rI ?_) | (with_reducible refine x_rV ?_) | (with_reducible refine x_rJ ?_) | (with_reducible refine x_rZ (by omega) ?_) | (with_reducible refine x_rO ?_) | (with_reducible refine x_thr ?_) | ((with_reducible refine x_pI ?_ ?_); rfl; try simp only [Int.cast_ofNat_Int]) | ((with_reducible refine x_pIs hq ?_); try simp only [Int.cast_ofNat_Int]) | ((with_reducible refine x_pZ ?_ (by omega) ?_); rfl; try simp only [Int.cast_ofNat_Int]) | ((with_reducible refine x_pZs hq (by omega) ?_); try simp only [Int.cast_ofNat_Int]) | (with_reducible refine x_pR ?_) | ((with_reducible apply x_aI); (first | assumption | rfl | exact (kb_st _ hq).2.1 | exact (kb_st _ hq).2.2.1 _ (by omega) (by omega) | exact (kb_st _ hq).2.2.2.1 _ (by omega) (by omega)); omega; omega; omega) | ((with_reducible apply x_sA); (first | assumption | rfl | exact (kb_st _ hq).2.1 | exact (kb_st _ hq).2.2.1 _ (by omega) (by omega) | exact (kb_st _ hq).2.2.2.1 _ (by omega) (by omega)); omega; omega; omega) | ((with_reducible apply x_aL); (first | assumption | rfl | exact (kb_st _ hq).2.1 | exact (kb_st _ hq).2.2.1 _ (by omega) (by omega) | exact (kb_st _ hq).2.2.2.1 _ (by omega) (by omega)); omega) | ((with_reducible apply x_cI); (with_reducible apply sp_X10_cell); (first | assumption | rfl | exact (kb_st _ hq).2.1 | exact (kb_st _ hq).2.2.1 _ (by omega) (by omega) | exact (kb_st _ hq).2.2.2.1 _ (by omega) (by omega)); omega; omega; omega; omega) | ((with_reducible refine x_cI (sp_X10_pairOf ?_ ?_ ?_)); omega; omega) | ((with_reducible apply x_aB); rfl; omega; omega; omega; omega) | ((with_reducible apply x_sZ); rfl; omega; omega; omega; omega) | ((with_reducible refine x_nz ?_ ?_ ?_ ?_); omega; omega; omega) | ((with_reducible refine x_nzl ?_ ?_ ?_ ?_); omega; omega; omega) | (simp (disch := omega) only [Int.cast_ofNat_Int, Int.natCast_add, Int.toNat_natCast, i32_add, i32_sub, i32_mul, i32_neg, i32_lit, i64_add, i64_sub, i64_mul, i64_neg, i64_lit, i64_int, hp, h5, i32_long, up_self, up_q, up_k]))
        all_goals first
          | omega
          | skip
        refine x_cV (sp_X0_addEdge hq hG hW2 (k := 12 * i + b) (a := i) (b := b) (by omega) hE hN (by omega) (by omega) fun I3 g1 g2 g3 => ?_)
        dsimp only
        apply hJ2
        exact ⟨by omega, I3, (by simp only [Int.cast_ofNat_Int, Int.natCast_add, Int.toNat_natCast, i32_add, i32_sub, i32_mul, i32_neg, i32_lit, i64_add, i64_sub, i64_mul, i64_neg, i64_lit, i64_int]), rfl, fun q h => by rw [g1 q h, hf q h], fun j h => by rw [g2 j h, hf1 j h], g3⟩
      · have hE2 := hE
        rw [show ((12 * i + b : Nat) : Int) = 12 * (i : Int) + (b : Int) by omega] at hE2
        rw [if_neg hE2] at h5
        (repeat' first | ((with_reducible apply x_gR); rfl; rfl) | ((with_reducible apply x_gRs hq); rfl) | ((with_reducible refine x_gI ?_ ?_); rfl; try simp only [Int.cast_ofNat_Int]) | ((with_reducible refine x_gIs hq ?_); try simp only [Int.cast_ofNat_Int]) | ((with_reducible refine x_ob ?_ ?_); rfl) | (with_reducible refine x_obs hq ?_) | (with_reducible refine x_lI ?_) | (with_reducible refine x_lJ ?_) | (with_reducible refine x_le (by omega) (by omega) (fun h => ?_) (fun h => ?_)) | (with_reducible refine x_lt (by omega) (by omega) (fun h => ?_) (fun h => ?_)) | (with_reducible refine x_eq (by omega) (by omega) (fun h => ?_) (fun h => ?_)) | (with_reducible refine x_brT ?_) | (with_reducible refine x_brF ?_) | (with_reducible refine x_rI ?_) | (with_reducible refine x_rV ?_) | (with_reducible refine x_rJ ?_) | (with_reducible refine x_rZ (by omega) ?_) | (with_reducible refine x_rO ?_) | (with_reducible refine x_thr ?_) | ((with_reducible refine x_pI ?_ ?_); rfl; try simp only [Int.cast_ofNat_Int]) | ((with_reducible refine x_pIs hq ?_); try simp only [Int.cast_ofNat_Int]) | ((with_reducible refine x_pZ ?_ (by omega) ?_); rfl; try simp only [Int.cast_ofNat_Int]) | ((with_reducible refine x_pZs hq (by omega) ?_); try simp only [Int.cast_ofNat_Int]) | (with_reducible refine x_pR ?_) | ((with_reducible apply x_aI); (first | assumption | rfl | exact (kb_st _ hq).2.1 | exact (kb_st _ hq).2.2.1 _ (by omega) (by omega) | exact (kb_st _ hq).2.2.2.1 _ (by omega) (by omega)); omega; omega; omega) | ((with_reducible apply x_sA); (first | assumption | rfl | exact (kb_st _ hq).2.1 | exact (kb_st _ hq).2.2.1 _ (by omega) (by omega) | exact (kb_st _ hq).2.2.2.1 _ (by omega) (by omega)); omega; omega; omega) | ((with_reducible apply x_aL); (first | assumption | rfl | exact (kb_st _ hq).2.1 | exact (kb_st _ hq).2.2.1 _ (by omega) (by omega) | exact (kb_st _ hq).2.2.2.1 _ (by omega) (by omega)); omega) | ((with_reducible apply x_cI); (with_reducible apply sp_X10_cell); (first | assumption | rfl | exact (kb_st _ hq).2.1 | exact (kb_st _ hq).2.2.1 _ (by omega) (by omega) | exact (kb_st _ hq).2.2.2.1 _ (by omega) (by omega)); omega; omega; omega; omega) | ((with_reducible refine x_cI (sp_X10_pairOf ?_ ?_ ?_)); omega; omega) | ((with_reducible apply x_aB); rfl; omega; omega; omega; omega) | ((with_reducible apply x_sZ); rfl; omega; omega; omega; omega) | ((with_reducible refine x_nz ?_ ?_ ?_ ?_); omega; omega; omega) | ((with_reducible refine x_nzl ?_ ?_ ?_ ?_); omega; omega; omega) | (simp (disch := omega) only [Int.cast_ofNat_Int, Int.natCast_add, Int.toNat_natCast, i32_add, i32_sub, i32_mul, i32_neg, i32_lit, i64_add, i64_sub, i64_mul, i64_neg, i64_lit, i64_int, hp, h5, i32_long, up_self, up_q, up_k]))
        all_goals first
          | omega
          | skip
        apply hJ2
        exact ⟨by omega, I2, (by simp only [Int.cast_ofNat_Int, Int.natCast_add, Int.toNat_natCast, i32_add, i32_sub, i32_mul, i32_neg, i32_lit, i64_add, i64_sub, i64_mul, i64_neg, i64_lit, i64_int]), rfl, hf, hf1, hN.skip (by omega) fun j h1 h2 => by rw [show j = 12 * i + b by omega]; exact Bool.eq_false_iff.mpr hE⟩
    · rintro a μ ⟨hib, I2, rfl, rfl, hf, hf1, hN⟩
      dsimp only [bX0_numberEdges, bX0_numberEdges_2]
      have hm : I2 5 0 = vm V := by rw [hf 5 (by omega)]; exact hw0
      (repeat' first | ((with_reducible apply x_gR); rfl; rfl) | ((with_reducible apply x_gRs hq); rfl) | ((with_reducible refine x_gI ?_ ?_); rfl; try simp only [Int.cast_ofNat_Int]) | ((with_reducible refine x_gIs hq ?_); try simp only [Int.cast_ofNat_Int]) | ((with_reducible refine x_ob ?_ ?_); rfl) | (with_reducible refine x_obs hq ?_) | (with_reducible refine x_lI ?_) | (with_reducible refine x_lJ ?_) | (with_reducible refine x_le (by omega) (by omega) (fun h => ?_) (fun h => ?_)) | (with_reducible refine x_lt (by omega) (by omega) (fun h => ?_) (fun h => ?_)) | (with_reducible refine x_eq (by omega) (by omega) (fun h => ?_) (fun h => ?_)) | (with_reducible refine x_brT ?_) | (with_reducible refine x_brF ?_) | (with_reducible refine x_rI ?_) | (with_reducible refine x_rV ?_) | (with_reducible refine x_rJ ?_) | (with_reducible refine x_rZ (by omega) ?_) | (with_reducible refine x_rO ?_) | (with_reducible refine x_thr ?_) | ((with_reducible refine x_pI ?_ ?_); rfl; try simp only [Int.cast_ofNat_Int]) | ((with_reducible refine x_pIs hq ?_); try simp only [Int.cast_ofNat_Int]) | ((with_reducible refine x_pZ ?_ (by omega) ?_); rfl; try simp only [Int.cast_ofNat_Int]) | ((with_reducible refine x_pZs hq (by omega) ?_); try simp only [Int.cast_ofNat_Int]) | (with_reducible refine x_pR ?_) | ((with_reducible apply x_aI); (first | assumption | rfl | exact (kb_st _ hq).2.1 | exact (kb_st _ hq).2.2.1 _ (by omega) (by omega) | exact (kb_st _ hq).2.2.2.1 _ (by omega) (by omega)); omega; omega; omega) | ((with_reducible apply x_sA); (first | assumption | rfl | exact (kb_st _ hq).2.1 | exact (kb_st _ hq).2.2.1 _ (by omega) (by omega) | exact (kb_st _ hq).2.2.2.1 _ (by omega) (by omega)); omega; omega; omega) | ((with_reducible apply x_aL); (first | assumption | rfl | exact (kb_st _ hq).2.1 | exact (kb_st _ hq).2.2.1 _ (by omega) (by omega) | exact (kb_st _ hq).2.2.2.1 _ (by omega) (by omega)); omega) | ((with_reducible apply x_aB); rfl; omega; omega; omega; omega) | ((with_reducible apply x_sZ); rfl; omega; omega; omega; omega) | ((with_reducible refine x_nz ?_ ?_ ?_ ?_); omega; omega; omega) | ((with_reducible refine x_nzl ?_ ?_ ?_ ?_); omega; omega; omega) | (simp (disch := omega) only [Int.cast_ofNat_Int, Int.natCast_add, Int.toNat_natCast, i32_add, i32_sub, i32_mul, i32_neg, i32_lit, i64_add, i64_sub, i64_mul, i64_neg, i64_lit, i64_int, i32_long, up_self, up_q, up_k]))
      · apply hJ
        exact ⟨I2, (by simp only [Int.cast_ofNat_Int, Int.natCast_add, Int.toNat_natCast, i32_add, i32_sub, i32_mul, i32_neg, i32_lit, i64_add, i64_sub, i64_mul, i64_neg, i64_lit, i64_int]), rfl, hf, hf1, hN.skip (by omega) fun j h1 h2 => isE_no hG (by omega)⟩
      all_goals omega
  · rintro a μ ⟨I', rfl, rfl, hf, hf1, hN⟩
    dsimp only [bX0_numberEdges, bX0_numberEdges_1]
    have hm : I' 5 0 = vm V := by rw [hf 5 (by omega)]; exact hw0
    (repeat' first | ((with_reducible apply x_gR); rfl; rfl) | ((with_reducible apply x_gRs hq); rfl) | ((with_reducible refine x_gI ?_ ?_); rfl; try simp only [Int.cast_ofNat_Int]) | ((with_reducible refine x_gIs hq ?_); try simp only [Int.cast_ofNat_Int]) | ((with_reducible refine x_ob ?_ ?_); rfl) | (with_reducible refine x_obs hq ?_) | (with_reducible refine x_lI ?_) | (with_reducible refine x_lJ ?_) | (with_reducible refine x_le (by omega) (by omega) (fun h => ?_) (fun h => ?_)) | (with_reducible refine x_lt (by omega) (by omega) (fun h => ?_) (fun h => ?_)) | (with_reducible refine x_eq (by omega) (by omega) (fun h => ?_) (fun h => ?_)) | (with_reducible refine x_brT ?_) | (with_reducible refine x_brF ?_) | (with_reducible refine x_rI ?_) | (with_reducible refine x_rV ?_) | (with_reducible refine x_rJ ?_) | (with_reducible refine x_rZ (by omega) ?_) | (with_reducible refine x_rO ?_) | (with_reducible refine x_thr ?_) | ((with_reducible refine x_pI ?_ ?_); rfl; try simp only [Int.cast_ofNat_Int]) | ((with_reducible refine x_pIs hq ?_); try simp only [Int.cast_ofNat_Int]) | ((with_reducible refine x_pZ ?_ (by omega) ?_); rfl; try simp only [Int.cast_ofNat_Int]) | ((with_reducible refine x_pZs hq (by omega) ?_); try simp only [Int.cast_ofNat_Int]) | (with_reducible refine x_pR ?_) | ((with_reducible apply x_aI); (first | assumption | rfl | exact (kb_st _ hq).2.1 | exact (kb_st _ hq).2.2.1 _ (by omega) (by omega) | exact (kb_st _ hq).2.2.2.1 _ (by omega) (by omega)); omega; omega; omega) | ((with_reducible apply x_sA); (first | assumption | rfl | exact (kb_st _ hq).2.1 | exact (kb_st _ hq).2.2.1 _ (by omega) (by omega) | exact (kb_st _ hq).2.2.2.1 _ (by omega) (by omega)); omega; omega; omega) | ((with_reducible apply x_aL); (first | assumption | rfl | exact (kb_st _ hq).2.1 | exact (kb_st _ hq).2.2.1 _ (by omega) (by omega) | exact (kb_st _ hq).2.2.2.1 _ (by omega) (by omega)); omega) | ((with_reducible apply x_aB); rfl; omega; omega; omega; omega) | ((with_reducible apply x_sZ); rfl; omega; omega; omega; omega) | ((with_reducible refine x_nz ?_ ?_ ?_ ?_); omega; omega; omega) | ((with_reducible refine x_nzl ?_ ?_ ?_ ?_); omega; omega; omega) | (simp (disch := omega) only [Int.cast_ofNat_Int, Int.natCast_add, Int.toNat_natCast, i32_add, i32_sub, i32_mul, i32_neg, i32_lit, i64_add, i64_sub, i64_mul, i64_neg, i64_lit, i64_int, i32_long, up_self, up_q, up_k]))
    · exact hQ I' hf hf1 (hN.skip (by omega) fun j h1 h2 => isE_no hG (by omega))
    all_goals omega
  · rw [up_q (by omega), h5 k (by omega) (by omega)]
    split
    · rw [if_neg (by omega)]
    · rfl
end Edges47
