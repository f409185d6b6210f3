section Edges48
variable {e : Nat} {I J : IM} {Q : Post} {V : Vw} {s v a b : Int}
/-- numbered, with the sums of the first i sights -/
def Sb (I : IM) (V : Vw) (i : Nat) : Prop :=
  I 171 3 = rk V 144 ∧ (∀ k : Nat, k < 144 → isE V k = true → I 176 (rk V k) = (k : Int) / 12 ∧ I 177 (rk V k) = (k : Int) % 12 ∧ I 178 (rk V k) = dk V k ∧ I 179 (rk V k) = sm (cn0 V k) i ∧ I 180 (rk V k) = 0 ∧ I 181 (rk V k) = sm (wc0 V k) i ∧ I 182 (rk V k) = sm (ws0 V k) i ∧ I 183 (rk V k) = sm (as0 V k) i) ∧
  ∀ k : Nat, k < 144 → I 175 k = if isE V k = true then (rk V k : Int) else -1
theorem Nb.sb {I : IM} (h : Nb I V 144) : Sb I V 0 := by
  refine ⟨h.1, fun k hk hE => ?_, fun k hk => ?_⟩
  · exact h.2.1 k hk hE
  · have := h.2.2 k hk
    rw [if_pos hk] at this
    exact this
theorem prE (hG : Good V) {i : Int} (h0 : 0 ≤ i) (h1 : i < vn V) (hc : vG V 5 i = 0) : isE V (pr V i) = true := by
  rw [isE_iff]
  unfold cnt
  obtain ⟨n, rfl⟩ : ∃ n : Nat, i = n := ⟨i.toNat, by omega⟩
  have key : ∀ m : Nat, n < m → 0 < sm (cn0 V (pr V n)) m := by
    intro m
    induction m with
    | zero => intro h; omega
    | succ m ih =>
      intro h
      simp only [sm]
      have a1 := cn0_01 V (pr V n) m
      have a2 := sm_nn (f := cn0 V (pr V n)) m fun j => (cn0_01 V (pr V n) j).1
      by_cases hm : n = m
      · subst hm
        have : cn0 V (pr V n) n = 1 := by unfold cn0; rw [if_pos ⟨hc, rfl⟩]
        omega
      · have := ih (by omega); omega
  exact key _ (by omega)
theorem Sb.edge {I : IM} {n : Nat} (h : Sb I V n) (hG : Good V) {i : Int} (h0 : 0 ≤ i) (h1 : i < vn V) (hc : vG V 5 i = 0) : ∃ k : Nat, k < 144 ∧ isE V k = true ∧ pr V i = k ∧ I 175 (pr V i) = rk V k ∧ rk V k < 40 := by
  have p := gd_pr hG h0 h1
  have hE := prE hG h0 h1 hc
  refine ⟨(pr V i).toNat, by omega, by rw [Int.toNat_of_nonneg p.1]; exact hE, by omega, ?_, rk_lt40 hG (by omega) (by rw [Int.toNat_of_nonneg p.1]; exact hE)⟩
  have := h.2.2 (pr V i).toNat (by omega)
  rw [Int.toNat_of_nonneg p.1, if_pos hE] at this
  exact this
theorem sp_X0_sumReadings (hq : e ∈ stLs) (hG : Good V) (hR : Rst I e V) (hS : Sb I V 0) (h1 : M1 I V)
    (hQ : ∀ I' : IM, (∀ q, q ≠ 179 → q ≠ 181 → q ≠ 182 → q ≠ 183 → I' q = I q) → Sb I' V (vn V) → Q (.inl none) (ME e I' J)) : SX0_sumReadings [.ref 171] (ME e I J) Q := by
  refine x_in (Nat.le_of_ble_eq_true rfl) ?_
  dsimp only [bX0_sumReadings, bX0_sumReadings_0]
  have hn := hG.2.1
  have he := st_rg hq
  refine x_for (vn V) (fun i a μ => ∃ I' : IM, a = [.ref 171, .int (i32 i)] ∧ μ = ME e I' J ∧ (∀ q, q ≠ 179 → q ≠ 181 → q ≠ 182 → q ≠ 183 → I' q = I q) ∧ Sb I' V i) ?_ ?_ (Nat.zero_le _) ⟨_, (by simp only [Int.cast_ofNat_Int, Int.natCast_add, Int.toNat_natCast, i32_add, i32_sub, i32_mul, i32_neg, i32_lit, i64_add, i64_sub, i64_mul, i64_neg, i64_lit, i64_int]), rfl, fun q _ _ _ _ => rfl, hS⟩
  · rintro i a μ hi ⟨I', rfl, rfl, hf, hS⟩ hJ
    dsimp only [bX0_sumReadings, bX0_sumReadings_1]
    have hR' : Rst I' e V := hR.keep (fun d hd => hf _ (by omega) (by omega) (by omega) (by omega))
    have g := gd_s hG (s := i) (by omega) (by omega)
    have fp : I' 173 (i : Int) = pur V i := by rw [hf 173 (by omega) (by omega) (by omega) (by omega)]; exact (h1 i (by omega) (by omega)).2.1
    have fn := R_n hR'
    by_cases hc : vG V 5 (i : Int) = 0
    · obtain ⟨k, hk, hE, hpk, h5, hr⟩ := hS.edge hG (i := i) (by omega) (by omega) hc
      have d := hS.2.1 k hk hE
      have stepEq : ∀ j : Nat, j < 144 → isE V j = true → j ≠ k → sm (cn0 V j) (i + 1) = sm (cn0 V j) i ∧ sm (wc0 V j) (i + 1) = sm (wc0 V j) i ∧ sm (ws0 V j) (i + 1) = sm (ws0 V j) i ∧ sm (as0 V j) (i + 1) = sm (as0 V j) i := by
        intro j hj hEj hjk
        have hne : ¬ pr V i = (j : Int) := by rw [hpk]; omega
        simp only [sm]
        unfold cn0 wc0 ws0 as0
        rw [if_neg (fun q => hne q.2), if_neg (fun q => hne q.2.1), if_neg (fun q => hne q.2.1), if_neg (fun q => hne q.2.1)]
        omega
      have hcn : cn0 V k i = 1 := by unfold cn0; rw [if_pos ⟨hc, hpk⟩]
      cases hw : isW V i
      · have hwf : (if isW V (i : Int) = true then (1 : Int) else 0) = 0 := by rw [hw]; rfl
        have v1 : wc0 V k i = 0 := by unfold wc0; rw [if_neg (fun q => by rw [hw] at q; exact absurd q.2.2 (by decide))]
        have v2 : ws0 V k i = 0 := by unfold ws0; rw [if_neg (fun q => by rw [hw] at q; exact absurd q.2.2 (by decide))]
        have v3 : as0 V k i = flp V i (pur V i) := by unfold as0; rw [if_pos ⟨hc, hpk, hw⟩]
        (repeat' first | ((with_reducible apply x_gR); rfl; rfl) | ((with_reducible apply x_gRs hq); rfl) | ((with_reducible refine x_gI ?_ ?_); rfl; try simp only [Int.cast_ofNat_Int]) | ((with_reducible refine x_gIs hq ?_); try simp only [Int.cast_ofNat_Int]) | ((with_reducible refine x_ob ?_ ?_); rfl) | (with_reducible refine x_obs hq ?_) | (with_reducible refine x_lI ?_) | (with_reducible refine x_lJ ?_) | (with_reducible refine x_le (by omega) (by omega) (fun h => ?_) (fun h => ?_)) | (with_reducible refine x_lt (by omega) (by omega) (fun h => ?_) (fun h => ?_)) | (with_reducible refine x_eq (by omega) (by omega) (fun h => ?_) (fun h => ?_)) | (with_reducible refine x_brT ?_) | (with_reducible refine x_brF ?_) | (with_reducible refine x_rI ?_) | (with_reducible refine x_rV ?_) | (with_reducible refine x_rJ ?_) | (with_reducible refine x_rZ (by omega) ?_) | (with_reducible refine x_rO ?_) | (with_reducible refine x_thr ?_) | ((with_reducible refine x_pI ?_ ?_); rfl; try simp only [Int.cast_ofNat_Int]) | ((with_reducible refine x_pIs hq ?_); try simp only [Int.cast_ofNat_Int]) | ((with_reducible refine x_pZ ?_ (by omega) ?_); rfl; try simp only [Int.cast_ofNat_Int]) | ((with_reducible refine x_pZs hq (by omega) ?_); try simp only [Int.cast_ofNat_Int]) | (with_reducible refine x_pR ?_) | ((with_reducible apply x_aI); (first | assumption | rfl | exact (kb_st _ hq).2.1 | exact (kb_st _ hq).2.2.1 _ (by omega) (by omega) | exact (kb_st _ hq).2.2.2.1 _ (by omega) (by omega)); omega; omega; omega) | ((with_reducible apply x_sA); (first | assumption | rfl | exact (kb_st _ hq).2.1 | exact (kb_st _ hq).2.2.1 _ (by omega) (by omega) | exact (kb_st _ hq).2.2.2.1 _ (by omega) (by omega)); omega; omega; omega) | ((with_reducible apply x_aL); (first | assumption | rfl | exact (kb_st _ hq).2.1 | exact (kb_st _ hq).2.2.1 _ (by omega) (by omega) | exact (kb_st _ hq).2.2.2.1 _ (by omega) (by omega)); omega) | ((with_reducible refine x_cI (sp_X6_counts hq ?_ hG ?_ ?_ ?_ ?_)); (first | exact hq | assumption); (focus (repeat' first | assumption | exact Rst.up (by assumption) (by omega) | refine Rst.up ?_ (by omega) | refine Rwl.up ?_ (by omega) | refine Rrw.up ?_ (by omega))); omega; omega) | ((with_reducible refine x_cI (sp_X0_edgeOf hq hG ?_ ?_ ?_ ?_)); (focus (repeat' first | assumption | exact Rst.up (by assumption) (by omega) | refine Rst.up ?_ (by omega) | refine Rwl.up ?_ (by omega) | refine Rrw.up ?_ (by omega))); omega; omega) | ((with_reducible apply x_cV); (with_reducible apply sp_X10_addTo); (first | assumption | rfl | exact (kb_st _ hq).2.1 | exact (kb_st _ hq).2.2.1 _ (by omega) (by omega) | exact (kb_st _ hq).2.2.2.1 _ (by omega) (by omega)); omega; omega; omega; omega) | ((with_reducible apply x_cI); (with_reducible apply sp_X10_cell); (first | assumption | rfl | exact (kb_st _ hq).2.1 | exact (kb_st _ hq).2.2.1 _ (by omega) (by omega) | exact (kb_st _ hq).2.2.2.1 _ (by omega) (by omega)); omega; omega; omega; omega) | ((with_reducible refine x_cI (sp_X0_fromLesser hq hG ?_ ?_ ?_ ?_)); (focus (repeat' first | assumption | exact Rst.up (by assumption) (by omega) | refine Rst.up ?_ (by omega) | refine Rwl.up ?_ (by omega) | refine Rrw.up ?_ (by omega))); omega; omega) | ((with_reducible refine x_cI (sp_X0_isWith hq hG ?_ ?_ ?_ ?_)); (focus (repeat' first | assumption | exact Rst.up (by assumption) (by omega) | refine Rst.up ?_ (by omega) | refine Rwl.up ?_ (by omega) | refine Rrw.up ?_ (by omega))); omega; omega) | ((with_reducible apply x_aB); rfl; omega; omega; omega; omega) | ((with_reducible apply x_sZ); rfl; omega; omega; omega; omega) | ((with_reducible refine x_nz ?_ ?_ ?_ ?_); omega; omega; omega) | ((with_reducible refine x_nzl ?_ ?_ ?_ ?_); omega; omega; omega) | (simp (disch := omega) only [Int.cast_ofNat_Int, Int.natCast_add, Int.toNat_natCast, i32_add, i32_sub, i32_mul, i32_neg, i32_lit, i64_add, i64_sub, i64_mul, i64_neg, i64_lit, i64_int, hc, if_true, h5, fp, hwf, i32_long, up_self, up_q, up_k]))
        all_goals first
          | omega
          | skip
        all_goals
          apply hJ
          refine ⟨_, (by simp only [Int.cast_ofNat_Int, Int.natCast_add, Int.toNat_natCast, i32_add, i32_sub, i32_mul, i32_neg, i32_lit, i64_add, i64_sub, i64_mul, i64_neg, i64_lit, i64_int]), rfl, fun q a1 a2 a3 a4 => ?_, ⟨?_, fun j hj hEj => ?_, fun j hj => ?_⟩⟩
          · rw [up_ne_q a4, up_ne_q a1, hf q a1 a2 a3 a4]
          · simp (disch := omega) only [up_q]; exact hS.1
          · have dj := hS.2.1 j hj hEj
            by_cases hjk : j = k
            · subst hjk
              simp (disch := omega) only [up_q, up_self, sm, hcn, v1, v2, v3, dj]
              refine ⟨trivial, trivial, trivial, ?_, ?_, ?_, ?_, ?_⟩ <;> first | trivial | omega
            · have hne : (rk V j : Int) ≠ (rk V k : Int) := fun q => hjk (ct_inj (p := isE V) hEj hE (Int.ofNat_inj.mp q))
              have st := stepEq j hj hEj hjk
              simp (disch := omega) only [up_q, up_k, st, dj]
              simp only [and_self]
          · simp (disch := omega) only [up_q]; exact hS.2.2 j hj
      · have hwf : (if isW V (i : Int) = true then (1 : Int) else 0) = 1 := by rw [hw]; rfl
        have v1 : wc0 V k i = 1 := by unfold wc0; rw [if_pos ⟨hc, hpk, hw⟩]
        have v2 : ws0 V k i = flp V i (pur V i) := by unfold ws0; rw [if_pos ⟨hc, hpk, hw⟩]
        have v3 : as0 V k i = 0 := by unfold as0; rw [if_neg (fun q => by rw [hw] at q; exact absurd q.2.2 (by decide))]
        (repeat' first | ((with_reducible apply x_gR); rfl; rfl) | ((with_reducible apply x_gRs hq); rfl) | ((with_reducible refine x_gI ?_ ?_); rfl; try simp only [Int.cast_ofNat_Int]) | ((with_reducible refine x_gIs hq ?_); try simp only [Int.cast_ofNat_Int]) | ((with_reducible refine x_ob ?_ ?_); rfl) | (with_reducible refine x_obs hq ?_) | (with_reducible refine x_lI ?_) | (with_reducible refine x_lJ ?_) | (with_reducible refine x_le (by omega) (by omega) (fun h => ?_) (fun h => ?_)) | (with_reducible refine x_lt (by omega) (by omega) (fun h => ?_) (fun h => ?_)) | (with_reducible refine x_eq (by omega) (by omega) (fun h => ?_) (fun h => ?_)) | (with_reducible refine x_brT ?_) | (with_reducible refine x_brF ?_) | (with_reducible refine x_rI ?_) | (with_reducible refine x_rV ?_) | (with_reducible refine x_rJ ?_) | (with_reducible refine x_rZ (by omega) ?_) | (with_reducible refine x_rO ?_) | (with_reducible refine x_thr ?_) | ((with_reducible refine x_pI ?_ ?_); rfl; try simp only [Int.cast_ofNat_Int]) | ((with_reducible refine x_pIs hq ?_); try simp only [Int.cast_ofNat_Int]) | ((with_reducible refine x_pZ ?_ (by omega) ?_); rfl; try simp only [Int.cast_ofNat_Int]) | ((with_reducible refine x_pZs hq (by omega) ?_); try simp only [Int.cast_ofNat_Int]) | (with_reducible refine x_pR ?_) | ((with_reducible apply x_aI); (first | assumption | rfl | exact (kb_st _ hq).2.1 | exact (kb_st _ hq).2.2.1 _ (by omega) (by omega) | exact (kb_st _ hq).2.2.2.1 _ (by omega) (by omega)); omega; omega; omega) | ((with_reducible apply x_sA); (first | assumption | rfl | exact (kb_st _ hq).2.1 | exact (kb_st _ hq).2.2.1 _ (by omega) (by omega) | exact (kb_st _ hq).2.2.2.1 _ (by omega) (by omega)); omega; omega; omega) | ((with_reducible apply x_aL); (first | assumption | rfl | exact (kb_st _ hq).2.1 | exact (kb_st _ hq).2.2.1 _ (by omega) (by omega) | exact (kb_st _ hq).2.2.2.1 _ (by omega) (by omega)); omega) | ((with_reducible refine x_cI (sp_X6_counts hq ?_ hG ?_ ?_ ?_ ?_)); (first | exact hq | assumption); (focus (repeat' first | assumption | exact Rst.up (by assumption) (by omega) | refine Rst.up ?_ (by omega) | refine Rwl.up ?_ (by omega) | refine Rrw.up ?_ (by omega))); omega; omega) | ((with_reducible refine x_cI (sp_X0_edgeOf hq hG ?_ ?_ ?_ ?_)); (focus (repeat' first | assumption | exact Rst.up (by assumption) (by omega) | refine Rst.up ?_ (by omega) | refine Rwl.up ?_ (by omega) | refine Rrw.up ?_ (by omega))); omega; omega) | ((with_reducible apply x_cV); (with_reducible apply sp_X10_addTo); (first | assumption | rfl | exact (kb_st _ hq).2.1 | exact (kb_st _ hq).2.2.1 _ (by omega) (by omega) | exact (kb_st _ hq).2.2.2.1 _ (by omega) (by omega)); omega; omega; omega; omega) | ((with_reducible apply x_cI); (with_reducible apply sp_X10_cell); (first | assumption | rfl | exact (kb_st _ hq).2.1 | exact (kb_st _ hq).2.2.1 _ (by omega) (by omega) | exact (kb_st _ hq).2.2.2.1 _ (by omega) (by omega)); omega; omega; omega; omega) | ((with_reducible refine x_cI (sp_X0_fromLesser hq hG ?_ ?_ ?_ ?_)); (focus (repeat' first | assumption | exact Rst.up (by assumption) (by omega) | refine Rst.up ?_ (by omega) | refine Rwl.up ?_ (by omega) | refine Rrw.up ?_ (by omega))); omega; omega) | ((with_reducible refine x_cI (sp_X0_isWith hq hG ?_ ?_ ?_ ?_)); (focus (repeat' first | assumption | exact Rst.up (by assumption) (by omega) | refine Rst.up ?_ (by omega) | refine Rwl.up ?_ (by omega) | refine Rrw.up ?_ (by omega))); omega; omega) | ((with_reducible apply x_aB); rfl; omega; omega; omega; omega) | ((with_reducible apply x_sZ); rfl; omega; omega; omega; omega) | ((with_reducible refine x_nz ?_ ?_ ?_ ?_); omega; omega; omega) | ((with_reducible refine x_nzl ?_ ?_ ?_ ?_); omega; omega; omega) | (simp (disch := omega) only [Int.cast_ofNat_Int, Int.natCast_add, Int.toNat_natCast, i32_add, i32_sub, i32_mul, i32_neg, i32_lit, i64_add, i64_sub, i64_mul, i64_neg, i64_lit, i64_int, hc, if_true, h5, fp, hwf, i32_long, up_self, up_q, up_k]))
        all_goals first
          | omega
          | skip
        all_goals
          apply hJ
          refine ⟨_, (by simp only [Int.cast_ofNat_Int, Int.natCast_add, Int.toNat_natCast, i32_add, i32_sub, i32_mul, i32_neg, i32_lit, i64_add, i64_sub, i64_mul, i64_neg, i64_lit, i64_int]), rfl, fun q a1 a2 a3 a4 => ?_, ⟨?_, fun j hj hEj => ?_, fun j hj => ?_⟩⟩
          · rw [up_ne_q a3, up_ne_q a2, up_ne_q a1, hf q a1 a2 a3 a4]
          · simp (disch := omega) only [up_q]; exact hS.1
          · have dj := hS.2.1 j hj hEj
            by_cases hjk : j = k
            · subst hjk
              simp (disch := omega) only [up_q, up_self, sm, hcn, v1, v2, v3, dj]
              refine ⟨trivial, trivial, trivial, ?_, ?_, ?_, ?_, ?_⟩ <;> first | trivial | omega
            · have hne : (rk V j : Int) ≠ (rk V k : Int) := fun q => hjk (ct_inj (p := isE V) hEj hE (Int.ofNat_inj.mp q))
              have st := stepEq j hj hEj hjk
              simp (disch := omega) only [up_q, up_k, st, dj]
              simp only [and_self]
          · simp (disch := omega) only [up_q]; exact hS.2.2 j hj
    · have stepEq : ∀ j : Nat, sm (cn0 V j) (i + 1) = sm (cn0 V j) i ∧ sm (wc0 V j) (i + 1) = sm (wc0 V j) i ∧ sm (ws0 V j) (i + 1) = sm (ws0 V j) i ∧ sm (as0 V j) (i + 1) = sm (as0 V j) i := by
        intro j
        simp only [sm]
        unfold cn0 wc0 ws0 as0
        rw [if_neg (fun q => hc q.1), if_neg (fun q => hc q.1), if_neg (fun q => hc q.1), if_neg (fun q => hc q.1)]
        omega
      (repeat' first | ((with_reducible apply x_gR); rfl; rfl) | ((with_reducible apply x_gRs hq); rfl) | ((with_reducible refine x_gI ?_ ?_); rfl; try simp only [Int.cast_ofNat_Int]) | ((with_reducible refine x_gIs hq ?_); try simp only [Int.cast_ofNat_Int]) | ((with_reducible refine x_ob ?_ ?_); rfl) | (with_reducible refine x_obs hq ?_) | (with_reducible refine x_lI ?_) | (with_reducible refine x_lJ ?_) | (with_reducible refine x_le (by omega) (by omega) (fun h => ?_) (fun h => ?_)) | (with_reducible refine x_lt (by omega) (by omega) (fun h => ?_) (fun h => ?_)) | (with_reducible refine x_eq (by omega) (by omega) (fun h => ?_) (fun h => ?_)) | (with_reducible refine x_brT ?_) | (with_reducible refine x_brF ?_) | (with_reducible refine x_rI ?_) | (with_reducible refine x_rV ?_) | (with_reducible refine x_rJ ?_) | (with_reducible refine x_rZ (by omega) ?_) | (with_reducible refine x_rO ?_) | (with_reducible refine x_thr ?_) | ((with_reducible refine x_pI ?_ ?_); rfl; try simp only [Int.cast_ofNat_Int]) | ((with_reducible refine x_pIs hq ?_); try simp only [Int.cast_ofNat_Int]) | ((with_reducible refine x_pZ ?_ (by omega) ?_); rfl; try simp only [Int.cast_ofNat_Int]) | ((with_reducible refine x_pZs hq (by omega) ?_); try simp only [Int.cast_ofNat_Int]) | (with_reducible refine x_pR ?_) | ((with_reducible apply x_aI); (first | assumption | rfl | exact (kb_st _ hq).2.1 | exact (kb_st _ hq).2.2.1 _ (by omega) (by omega) | exact (kb_st _ hq).2.2.2.1 _ (by omega) (by omega)); omega; omega; omega) | ((with_reducible apply x_sA); (first | assumption | rfl | exact (kb_st _ hq).2.1 | exact (kb_st _ hq).2.2.1 _ (by omega) (by omega) | exact (kb_st _ hq).2.2.2.1 _ (by omega) (by omega)); omega; omega; omega) | ((with_reducible apply x_aL); (first | assumption | rfl | exact (kb_st _ hq).2.1 | exact (kb_st _ hq).2.2.1 _ (by omega) (by omega) | exact (kb_st _ hq).2.2.2.1 _ (by omega) (by omega)); omega) | ((with_reducible refine x_cI (sp_X6_counts hq ?_ hG ?_ ?_ ?_ ?_)); (first | exact hq | assumption); (focus (repeat' first | assumption | exact Rst.up (by assumption) (by omega) | refine Rst.up ?_ (by omega) | refine Rwl.up ?_ (by omega) | refine Rrw.up ?_ (by omega))); omega; omega) | ((with_reducible refine x_cI (sp_X0_edgeOf hq hG ?_ ?_ ?_ ?_)); (focus (repeat' first | assumption | exact Rst.up (by assumption) (by omega) | refine Rst.up ?_ (by omega) | refine Rwl.up ?_ (by omega) | refine Rrw.up ?_ (by omega))); omega; omega) | ((with_reducible apply x_cV); (with_reducible apply sp_X10_addTo); (first | assumption | rfl | exact (kb_st _ hq).2.1 | exact (kb_st _ hq).2.2.1 _ (by omega) (by omega) | exact (kb_st _ hq).2.2.2.1 _ (by omega) (by omega)); omega; omega; omega; omega) | ((with_reducible apply x_cI); (with_reducible apply sp_X10_cell); (first | assumption | rfl | exact (kb_st _ hq).2.1 | exact (kb_st _ hq).2.2.1 _ (by omega) (by omega) | exact (kb_st _ hq).2.2.2.1 _ (by omega) (by omega)); omega; omega; omega; omega) | ((with_reducible refine x_cI (sp_X0_fromLesser hq hG ?_ ?_ ?_ ?_)); (focus (repeat' first | assumption | exact Rst.up (by assumption) (by omega) | refine Rst.up ?_ (by omega) | refine Rwl.up ?_ (by omega) | refine Rrw.up ?_ (by omega))); omega; omega) | ((with_reducible refine x_cI (sp_X0_isWith hq hG ?_ ?_ ?_ ?_)); (focus (repeat' first | assumption | exact Rst.up (by assumption) (by omega) | refine Rst.up ?_ (by omega) | refine Rwl.up ?_ (by omega) | refine Rrw.up ?_ (by omega))); omega; omega) | ((with_reducible apply x_aB); rfl; omega; omega; omega; omega) | ((with_reducible apply x_sZ); rfl; omega; omega; omega; omega) | ((with_reducible refine x_nz ?_ ?_ ?_ ?_); omega; omega; omega) | ((with_reducible refine x_nzl ?_ ?_ ?_ ?_); omega; omega; omega) | (simp (disch := omega) only [Int.cast_ofNat_Int, Int.natCast_add, Int.toNat_natCast, i32_add, i32_sub, i32_mul, i32_neg, i32_lit, i64_add, i64_sub, i64_mul, i64_neg, i64_lit, i64_int, hc, if_false, i32_long, up_self, up_q, up_k]))
      all_goals first
        | omega
        | skip
      all_goals
        apply hJ
        refine ⟨_, (by simp only [Int.cast_ofNat_Int, Int.natCast_add, Int.toNat_natCast, i32_add, i32_sub, i32_mul, i32_neg, i32_lit, i64_add, i64_sub, i64_mul, i64_neg, i64_lit, i64_int]), rfl, hf, ⟨hS.1, fun j hj hEj => ?_, hS.2.2⟩⟩
        have st := stepEq j
        rw [st.1, st.2.1, st.2.2.1, st.2.2.2]
        exact hS.2.1 j hj hEj
  · rintro a μ ⟨I', rfl, rfl, hf, hS⟩
    dsimp only [bX0_sumReadings, bX0_sumReadings_1]
    have hR' : Rst I' e V := hR.keep (fun d hd => hf _ (by omega) (by omega) (by omega) (by omega))
    have fn := R_n hR'
    (repeat' first | ((with_reducible apply x_gR); rfl; rfl) | ((with_reducible apply x_gRs hq); rfl) | ((with_reducible refine x_gI ?_ ?_); rfl; try simp only [Int.cast_ofNat_Int]) | ((with_reducible refine x_gIs hq ?_); try simp only [Int.cast_ofNat_Int]) | ((with_reducible refine x_ob ?_ ?_); rfl) | (with_reducible refine x_obs hq ?_) | (with_reducible refine x_lI ?_) | (with_reducible refine x_lJ ?_) | (with_reducible refine x_le (by omega) (by omega) (fun h => ?_) (fun h => ?_)) | (with_reducible refine x_lt (by omega) (by omega) (fun h => ?_) (fun h => ?_)) | (with_reducible refine x_eq (by omega) (by omega) (fun h => ?_) (fun h => ?_)) | (with_reducible refine x_brT ?_) | (with_reducible refine x_brF ?_) | (with_reducible refine x_rI ?_) | (with_reducible refine x_rV ?_) | (with_reducible refine x_rJ ?_) | (with_reducible refine x_rZ (by omega) ?_) | (with_reducible refine x_rO ?_) | (with_reducible refine x_thr ?_) | ((with_reducible refine x_pI ?_ ?_); rfl; try simp only [Int.cast_ofNat_Int]) | ((with_reducible refine x_pIs hq ?_); try simp only [Int.cast_ofNat_Int]) | ((with_reducible refine x_pZ ?_ (by omega) ?_); rfl; try simp only [Int.cast_ofNat_Int]) | ((with_reducible refine x_pZs hq (by omega) ?_); try simp only [Int.cast_ofNat_Int]) | (with_reducible refine x_pR ?_) | ((with_reducible apply x_aI); (first | assumption | rfl | exact (kb_st _ hq).2.1 | exact (kb_st _ hq).2.2.1 _ (by omega) (by omega) | exact (kb_st _ hq).2.2.2.1 _ (by omega) (by omega)); omega; omega; omega) | ((with_reducible apply x_sA); (first | assumption | rfl | exact (kb_st _ hq).2.1 | exact (kb_st _ hq).2.2.1 _ (by omega) (by omega) | exact (kb_st _ hq).2.2.2.1 _ (by omega) (by omega)); omega; omega; omega) | ((with_reducible apply x_aL); (first | assumption | rfl | exact (kb_st _ hq).2.1 | exact (kb_st _ hq).2.2.1 _ (by omega) (by omega) | exact (kb_st _ hq).2.2.2.1 _ (by omega) (by omega)); omega) | ((with_reducible apply x_aB); rfl; omega; omega; omega; omega) | ((with_reducible apply x_sZ); rfl; omega; omega; omega; omega) | ((with_reducible refine x_nz ?_ ?_ ?_ ?_); omega; omega; omega) | ((with_reducible refine x_nzl ?_ ?_ ?_ ?_); omega; omega; omega) | (simp (disch := omega) only [Int.cast_ofNat_Int, Int.natCast_add, Int.toNat_natCast, i32_add, i32_sub, i32_mul, i32_neg, i32_lit, i64_add, i64_sub, i64_mul, i64_neg, i64_lit, i64_int, i32_long, up_self, up_q, up_k]))
    · exact hQ I' hf hS
    all_goals omega
end Edges48
