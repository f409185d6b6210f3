theorem st_rg {q : Nat} (h : q ∈ stLs) : 8 ≤ q ∧ q ≤ 157 := by
  simp only [stLs, List.mem_cons, List.not_mem_nil, or_false] at h
  omega
section Edges45
variable {e : Nat} {I J : IM} {Q : Post} {V : Vw} {s v a b : Int}
def M1 (I : IM) (V : Vw) : Prop := ∀ s : Int, 0 ≤ s → s < vn V → I 172 s = sdst V s ∧ I 173 s = pur V s ∧ I 174 s = sgn V s
theorem sp_X0_readSights (hq : e ∈ stLs) (hG : Good V) (hR : Rst I e V) (hW : Rwl I 5 V)
    (hQ : ∀ I' : IM, (∀ q, q ≠ 172 → q ≠ 173 → q ≠ 174 → I' q = I q) → M1 I' V → Q (.inl none) (ME e I' J)) : SX0_readSights [.ref 171] (ME e I J) Q := by
  refine x_in (Nat.le_of_ble_eq_true rfl) ?_
  dsimp only [bX0_readSights, bX0_readSights_0]
  have hn := hG.2.1
  have he := st_rg hq
  refine x_for (vn V) (fun i a μ => ∃ I' : IM, a = [.ref 171, .int (i32 i)] ∧ μ = ME e I' J ∧ (∀ q, q ≠ 172 → q ≠ 173 → q ≠ 174 → I' q = I q) ∧ ∀ s : Int, 0 ≤ s → s < i → I' 172 s = sdst V s ∧ I' 173 s = pur V s ∧ I' 174 s = sgn V s) ?_ ?_ (Nat.zero_le _) ⟨I, (by simp only [Int.cast_ofNat_Int, Int.natCast_add, Int.toNat_natCast, i32_add, i32_sub, i32_mul, i32_neg, i32_lit, i64_add, i64_sub, i64_mul, i64_neg, i64_lit, i64_int]), rfl, fun _ _ _ _ => rfl, fun s h h' => by omega⟩
  · rintro i a μ hi ⟨I', rfl, rfl, hf, hs⟩ hJ
    dsimp only [bX0_readSights, bX0_readSights_1]
    have hR' : Rst I' e V := hR.keep (fun d hd => hf _ (by omega) (by omega) (by omega))
    have hW' : Rwl I' 5 V := hW.keep (fun d hd => hf _ (by omega) (by omega) (by omega))
    have g := gd_s hG (s := i) (by omega) (by omega)
    have g2 := gd_sdst hG (s := i) (by omega) (by omega)
    have g3 := swg_rg (d := sdst V i) (L := vS V 0) (by omega) (by have := hG.2.2.1; omega)
    have m := hG.1
    have f0 := R_s0 hR' (s := i) (by omega) (by omega)
    have f1 := R_s1 hR' (s := i) (by omega) (by omega)
    have f2 := R_s2 hR' (s := i) (by omega) (by omega)
    have f3 := R_s3 hR' (s := i) (by omega) (by omega)
    have fn := R_n hR'
    (repeat' first | ((with_reducible apply x_gR); rfl; rfl) | ((with_reducible apply x_gRs hq); rfl) | ((with_reducible refine x_gI ?_ ?_); rfl; try simp only [Int.cast_ofNat_Int]) | ((with_reducible refine x_gIs hq ?_); try simp only [Int.cast_ofNat_Int]) | ((with_reducible refine x_ob ?_ ?_); rfl) | (with_reducible refine x_obs hq ?_) | (with_reducible refine x_lI ?_) | (with_reducible refine x_lJ ?_) | (with_reducible refine x_le (by omega) (by omega) (fun h => ?_) (fun h => ?_)) | (with_reducible refine x_lt (by omega) (by omega) (fun h => ?_) (fun h => ?_)) | (with_reducible refine x_eq (by omega) (by omega) (fun h => ?_) (fun h => ?_)) | (with_reducible refine x_brT ?_) | (with_reducible refine x_brF ?_) | (with_reducible refine x_rI ?_) | (with_reducible refine x_rV ?_) | (with_reducible refine x_rJ ?_) | (with_reducible refine x_rZ (by omega) ?_) | (with_reducible refine x_rO ?_) | (with_reducible refine x_thr ?_) | ((with_reducible refine x_pI ?_ ?_); rfl; try simp only [Int.cast_ofNat_Int]) | ((with_reducible refine x_pIs hq ?_); try simp only [Int.cast_ofNat_Int]) | ((with_reducible refine x_pZ ?_ (by omega) ?_); rfl; try simp only [Int.cast_ofNat_Int]) | ((with_reducible refine x_pZs hq (by omega) ?_); try simp only [Int.cast_ofNat_Int]) | (with_reducible refine x_pR ?_) | ((with_reducible apply x_aI); (first | assumption | rfl | exact (kb_st _ hq).2.1 | exact (kb_st _ hq).2.2.1 _ (by omega) (by omega) | exact (kb_st _ hq).2.2.2.1 _ (by omega) (by omega)); omega; omega; omega) | ((with_reducible apply x_sA); (first | assumption | rfl | exact (kb_st _ hq).2.1 | exact (kb_st _ hq).2.2.1 _ (by omega) (by omega) | exact (kb_st _ hq).2.2.2.1 _ (by omega) (by omega)); omega; omega; omega) | ((with_reducible apply x_aL); (first | assumption | rfl | exact (kb_st _ hq).2.1 | exact (kb_st _ hq).2.2.1 _ (by omega) (by omega) | exact (kb_st _ hq).2.2.2.1 _ (by omega) (by omega)); omega) | ((with_reducible apply x_cI); (with_reducible apply sp_X10_cell); (first | assumption | rfl | exact (kb_st _ hq).2.1 | exact (kb_st _ hq).2.2.1 _ (by omega) (by omega) | exact (kb_st _ hq).2.2.2.1 _ (by omega) (by omega)); omega; omega; omega; omega) | ((with_reducible refine x_cI (sp_X9_distance ?_ hG ?_ ?_ ?_ ?_)); exact ⟨rfl, rfl, rfl⟩; (focus (repeat' first | assumption | exact Rst.up (by assumption) (by omega) | refine Rst.up ?_ (by omega) | refine Rwl.up ?_ (by omega) | refine Rrw.up ?_ (by omega))); omega; omega) | ((with_reducible apply x_cV); (with_reducible apply sp_X10_put); (first | assumption | rfl | exact (kb_st _ hq).2.1 | exact (kb_st _ hq).2.2.1 _ (by omega) (by omega) | exact (kb_st _ hq).2.2.2.1 _ (by omega) (by omega)); omega; omega; omega; omega) | ((with_reducible refine x_cI (sp_X0_bendOf hq hG ?_ ?_ ?_ ?_ ?_)); (focus (repeat' first | assumption | exact Rst.up (by assumption) (by omega) | refine Rst.up ?_ (by omega) | refine Rwl.up ?_ (by omega) | refine Rrw.up ?_ (by omega))); omega; omega; (first | assumption | exact up_self | omega | (simp only [up, Nat.reduceEqDiff, and_self, and_true, true_and, false_and, if_true, if_false]; first | done | rfl | assumption | omega))) | ((with_reducible refine x_cI (sp_X0_warmthOf hq hG ?_ ?_ ?_ ?_ ?_)); (focus (repeat' first | assumption | exact Rst.up (by assumption) (by omega) | refine Rst.up ?_ (by omega) | refine Rwl.up ?_ (by omega) | refine Rrw.up ?_ (by omega))); omega; omega; (first | assumption | exact up_self | omega | (simp only [up, Nat.reduceEqDiff, and_self, and_true, true_and, false_and, if_true, if_false]; first | done | rfl | assumption | omega))) | ((with_reducible refine x_cI (sp_X0_swingsOf hq hG ?_ ?_ ?_ ?_ ?_)); (focus (repeat' first | assumption | exact Rst.up (by assumption) (by omega) | refine Rst.up ?_ (by omega) | refine Rwl.up ?_ (by omega) | refine Rrw.up ?_ (by omega))); omega; omega; (first | assumption | exact up_self | omega | (simp only [up, Nat.reduceEqDiff, and_self, and_true, true_and, false_and, if_true, if_false]; first | done | rfl | assumption | omega))) | ((with_reducible refine x_cI (sp_X0_isOdd ?_ ?_ ?_)); omega; omega) | ((with_reducible apply x_aB); rfl; omega; omega; omega; omega) | ((with_reducible apply x_sZ); rfl; omega; omega; omega; omega) | ((with_reducible refine x_nz ?_ ?_ ?_ ?_); omega; omega; omega) | ((with_reducible refine x_nzl ?_ ?_ ?_ ?_); omega; omega; omega) | (simp (disch := omega) only [Int.cast_ofNat_Int, Int.natCast_add, Int.toNat_natCast, i32_add, i32_sub, i32_mul, i32_neg, i32_lit, i64_add, i64_sub, i64_mul, i64_neg, i64_lit, i64_int, f0, f1, f2, f3, i32_long, up_self, up_q, up_k]))
    all_goals first
      | omega
      | skip
    all_goals
      apply hJ
      refine ⟨_, (by simp only [Int.cast_ofNat_Int, Int.natCast_add, Int.toNat_natCast, i32_add, i32_sub, i32_mul, i32_neg, i32_lit, i64_add, i64_sub, i64_mul, i64_neg, i64_lit, i64_int]), rfl, fun q a b c => ?_, fun s h0 h1 => ?_⟩
      · rw [up_qf c, up_qf b, up_qf a, hf q a b c]
      · by_cases hsi : s = (i : Int)
        · subst hsi
          simp only [up, Nat.reduceEqDiff, false_and, true_and, if_true, if_false]
          refine ⟨rfl, rfl, ?_⟩
          unfold sgn
          split <;> (try split) <;> omega
        · have := hs s h0 (by omega)
          simp only [up, hsi, and_false, if_false]
          exact this
  · rintro a μ ⟨I', rfl, rfl, hf, hs⟩
    dsimp only [bX0_readSights, bX0_readSights_1]
    have hR' : Rst I' e V := hR.keep (fun d hd => hf _ (by omega) (by omega) (by omega))
    have fn := R_n hR'
    (repeat' first | ((with_reducible apply x_gR); rfl; rfl) | ((with_reducible apply x_gRs hq); rfl) | ((with_reducible refine x_gI ?_ ?_); rfl; try simp only [Int.cast_ofNat_Int]) | ((with_reducible refine x_gIs hq ?_); try simp only [Int.cast_ofNat_Int]) | ((with_reducible refine x_ob ?_ ?_); rfl) | (with_reducible refine x_obs hq ?_) | (with_reducible refine x_lI ?_) | (with_reducible refine x_lJ ?_) | (with_reducible refine x_le (by omega) (by omega) (fun h => ?_) (fun h => ?_)) | (with_reducible refine x_lt (by omega) (by omega) (fun h => ?_) (fun h => ?_)) | (with_reducible refine x_eq (by omega) (by omega) (fun h => ?_) (fun h => ?_)) | (with_reducible refine x_brT ?_) | (with_reducible refine x_brF ?_) | (with_reducible refine x_rI ?_) | (with_reducible refine x_rV ?_) | (with_reducible refine x_rJ ?_) | (with_reducible refine x_rZ (by omega) ?_) | (with_reducible refine x_rO ?_) | (with_reducible refine x_thr ?_) | ((with_reducible refine x_pI ?_ ?_); rfl; try simp only [Int.cast_ofNat_Int]) | ((with_reducible refine x_pIs hq ?_); try simp only [Int.cast_ofNat_Int]) | ((with_reducible refine x_pZ ?_ (by omega) ?_); rfl; try simp only [Int.cast_ofNat_Int]) | ((with_reducible refine x_pZs hq (by omega) ?_); try simp only [Int.cast_ofNat_Int]) | (with_reducible refine x_pR ?_) | ((with_reducible apply x_aI); (first | assumption | rfl | exact (kb_st _ hq).2.1 | exact (kb_st _ hq).2.2.1 _ (by omega) (by omega) | exact (kb_st _ hq).2.2.2.1 _ (by omega) (by omega)); omega; omega; omega) | ((with_reducible apply x_sA); (first | assumption | rfl | exact (kb_st _ hq).2.1 | exact (kb_st _ hq).2.2.1 _ (by omega) (by omega) | exact (kb_st _ hq).2.2.2.1 _ (by omega) (by omega)); omega; omega; omega) | ((with_reducible apply x_aL); (first | assumption | rfl | exact (kb_st _ hq).2.1 | exact (kb_st _ hq).2.2.1 _ (by omega) (by omega) | exact (kb_st _ hq).2.2.2.1 _ (by omega) (by omega)); omega) | ((with_reducible apply x_aB); rfl; omega; omega; omega; omega) | ((with_reducible apply x_sZ); rfl; omega; omega; omega; omega) | ((with_reducible refine x_nz ?_ ?_ ?_ ?_); omega; omega; omega) | ((with_reducible refine x_nzl ?_ ?_ ?_ ?_); omega; omega; omega) | (simp (disch := omega) only [Int.cast_ofNat_Int, Int.natCast_add, Int.toNat_natCast, i32_add, i32_sub, i32_mul, i32_neg, i32_lit, i64_add, i64_sub, i64_mul, i64_neg, i64_lit, i64_int, i32_long, up_self, up_q, up_k]))
    · exact hQ I' hf hs
    all_goals omega
end Edges45
