/-! ===== the reference: how its loops close ===== -/
section Close74
variable {e : Nat} {I J : IM} {Q : Post} {V : Vw} {b : Int}
theorem sp_X11_closesWith (hG : Good V) (hW : Rrw I 201 0 V) (hR : Rk I V) {k : Nat} (hk : k < 144) (hL : isL V k = true) (hb : 0 ≤ b ∧ b ≤ 1000)
    (hQ : ∀ I' : IM, Wf I I' → Q (.inl (some (.int (i32 (if clo V b k = true then 1 else 0))))) (ME e I' J)) : SX11_closesWith [.ref 200, .int (i32 (lk V k)), .int (i32 b)] (ME e I J) Q := by
  refine x_in (Nat.le_of_ble_eq_true rfl) ?_
  dsimp only [bX11_closesWith, bX11_closesWith_0]
  have hE := (isL_E hL).1
  have lc := lC_bd hG hE
  have lw := lW_bd hG hE
  have s1 := sq_bd lc
  have s2 := mul_bd (a := lW V k) (b := b) (A := 1199988) (B := 1000) (by omega) hb
  have s3 := mul_bd (a := lW V k * b) (b := b) (A := 1199988 * 1000) (B := 1000) (by omega) hb
  refine x_ob rfl (x_cI (sp_X11_misclosure hG hW hR hk hL fun I1 f1 => x_lJ (x_ob rfl (x_cI (sp_X11_wayOf hG (f1.rw' hW) (f1.rk hR) hk hL fun I2 f2 => ?_)))))
  dsimp only
  have hq := hQ I2 (f1.trans f2)
  rw [show (1000 : Int64) = i64 1000 from rfl, i32_long (by omega) (by omega), i32_long (by omega) (by omega), i32_long (by omega) (by omega), i64_mul, i64_mul, i64_mul, i64_mul,
    show 1000 * lC V k * lC V k = 1000 * (lC V k * lC V k) from Int.mul_assoc _ _ _, show b * b * lW V k = lW V k * b * b by rw [Int.mul_comm, Int.mul_assoc]]
  unfold clo at hq
  simp only [decide_eq_true_eq] at hq
  refine x_lcgt (by omega) (by omega) (fun h => ?_) (fun h => ?_)
  · rw [if_neg (by omega)] at hq; exact x_rZ (v := 0) (by omega) hq
  · rw [if_pos h] at hq; exact x_rZ (v := 1) (by omega) hq
theorem sp_X11_closes (hG : Good V) (hW : Rrw I 201 0 V) (hR : Rk I V) {k : Nat} (hk : k < 144) (hL : isL V k = true)
    (hQ : ∀ I' : IM, Wf I I' → Q (.inl (some (.int (i32 (if clo V (vS V 3) k = true then 1 else 0))))) (ME e I' J)) : SX11_closes [.ref 200, .int (i32 (lk V k))] (ME e I J) Q := by
  refine x_in (Nat.le_of_ble_eq_true rfl) ?_
  dsimp only [bX11_closes, bX11_closes_0]
  have f5 : I 201 5 = vS V 3 := W_S hW (i := 3) (by omega) (by omega)
  have lim := hG.2.2.2.2.2.1
  rw [show (5 : Int32) = i32 5 from rfl]
  refine x_gR rfl rfl (x_aI rfl (by omega) (by omega) (by omega) ?_)
  rw [f5]
  refine x_ob rfl (x_cI (sp_X11_closesWith hG hW hR hk hL (by omega) fun I1 f1 => x_rZ (by split <;> simp) (hQ I1 f1)))
theorem sp_X11_edges (hG : Good V) (hR : Rk I V) (hQ : Q (.inl (some (.int (i32 (nE V))))) (ME e I J)) : SX11_edges [.ref 200] (ME e I J) Q := by
  refine x_in (Nat.le_of_ble_eq_true rfl) ?_
  dsimp only [bX11_edges, bX11_edges_0]
  have n40 := hG.2.1
  refine x_for 144 (fun i av μ => av = [.ref 200, .int (i32 (rk V i)), .int (i32 i)] ∧ μ = ME e I J) ?_ ?_ (Nat.zero_le _) ⟨by rw [show rk V 0 = 0 from rfl]; simp [Int.cast_ofNat_Int, Int.natCast_add, Int.toNat_natCast, i32_add, i32_sub, i32_mul, i32_neg, i32_lit, i64_add, i64_sub, i64_mul, i64_neg, i64_lit, i64_int], rfl⟩
  · rintro i av μ hi ⟨rfl, rfl⟩ hJ
    dsimp only [bX11_edges, bX11_edges_1]
    have c8 := hR.1.2.1 i (by omega) (by omega)
    have nn := cnt_rg V i
    have hs := rk_succ (V := V) (k := i)
    by_cases hE : isE V i = true
    · have := isE_iff.mp hE
      rw [if_pos hE] at hs
      have h3 := hJ [.ref 200, .int (i32 ((rk V i : Int) + 1)), .int (i32 ((i : Int) + 1))] (ME e I J) ⟨by rw [hs]; simp only [Int.cast_ofNat_Int, Int.natCast_add, Int.toNat_natCast, i32_add, i32_sub, i32_mul, i32_neg, i32_lit, i64_add, i64_sub, i64_mul, i64_neg, i64_lit, i64_int, Int.natCast_one], rfl⟩
      (repeat' first | ((with_reducible apply x_gR); rfl; rfl) | ((with_reducible apply x_gRs hq); rfl) | ((with_reducible refine x_gI ?_ ?_); rfl; try simp only [Int.cast_ofNat_Int]) | ((with_reducible refine x_gIs hq ?_); try simp only [Int.cast_ofNat_Int]) | ((with_reducible refine x_ob ?_ ?_); rfl) | (with_reducible refine x_obs hq ?_) | (with_reducible refine x_lI ?_) | (with_reducible refine x_lJ ?_) | (with_reducible refine x_le (by omega) (by omega) (fun h => ?_) (fun h => ?_)) | (with_reducible refine x_lt (by omega) (by omega) (fun h => ?_) (fun h => ?_)) | (with_reducible refine x_eq (by omega) (by omega) (fun h => ?_) (fun h => ?_)) | (with_reducible refine x_brT ?_) | (with_reducible refine x_brF ?_) | (with_reducible refine x_rI ?_) | (with_reducible refine x_rV ?_) | (with_reducible refine x_rJ ?_) | (with_reducible refine x_rZ (by omega) ?_) | (with_reducible refine x_rO ?_) | (with_reducible refine x_thr ?_) | ((with_reducible refine x_pI ?_ ?_); rfl; try simp only [Int.cast_ofNat_Int]) | ((with_reducible refine x_pIs hq ?_); try simp only [Int.cast_ofNat_Int]) | ((with_reducible refine x_pZ ?_ (by omega) ?_); rfl; try simp only [Int.cast_ofNat_Int]) | ((with_reducible refine x_pZs hq (by omega) ?_); try simp only [Int.cast_ofNat_Int]) | (with_reducible refine x_pR ?_) | ((with_reducible apply x_aI); (first | assumption | rfl | exact (kb_st _ hq).2.1 | exact (kb_st _ hq).2.2.1 _ (by omega) (by omega) | exact (kb_st _ hq).2.2.2.1 _ (by omega) (by omega)); omega; omega; omega) | ((with_reducible apply x_sA); (first | assumption | rfl | exact (kb_st _ hq).2.1 | exact (kb_st _ hq).2.2.1 _ (by omega) (by omega) | exact (kb_st _ hq).2.2.2.1 _ (by omega) (by omega)); omega; omega; omega) | ((with_reducible apply x_aL); (first | assumption | rfl | exact (kb_st _ hq).2.1 | exact (kb_st _ hq).2.2.1 _ (by omega) (by omega) | exact (kb_st _ hq).2.2.2.1 _ (by omega) (by omega)); omega) | ((with_reducible apply x_cI); (with_reducible apply sp_X11_marks); (focus (repeat' first | assumption | exact Rst.up (by assumption) (by omega) | refine Rst.up ?_ (by omega) | refine Rwl.up ?_ (by omega) | refine Rrw.up ?_ (by omega)))) | ((with_reducible apply x_aB); rfl; omega; omega; omega; omega) | ((with_reducible apply x_sZ); rfl; omega; omega; omega; omega) | ((with_reducible refine x_nz ?_ ?_ ?_ ?_); omega; omega; omega) | ((with_reducible refine x_nzl ?_ ?_ ?_ ?_); omega; omega; omega) | (simp (disch := omega) only [Int.cast_ofNat_Int, Int.natCast_add, Int.toNat_natCast, i32_add, i32_sub, i32_mul, i32_neg, i32_lit, i64_add, i64_sub, i64_mul, i64_neg, i64_lit, i64_int, c8, i32_long, up_self, up_q, up_k]))
      all_goals (first | omega | exact h3)
    · have : ¬ 0 < cnt V i := fun q => hE (isE_iff.mpr q)
      rw [if_neg hE] at hs
      have h3 := hJ [.ref 200, .int (i32 (rk V i)), .int (i32 ((i : Int) + 1))] (ME e I J) ⟨by rw [hs]; simp only [Int.cast_ofNat_Int, Int.natCast_add, Int.toNat_natCast, i32_add, i32_sub, i32_mul, i32_neg, i32_lit, i64_add, i64_sub, i64_mul, i64_neg, i64_lit, i64_int, Nat.add_zero], rfl⟩
      (repeat' first | ((with_reducible apply x_gR); rfl; rfl) | ((with_reducible apply x_gRs hq); rfl) | ((with_reducible refine x_gI ?_ ?_); rfl; try simp only [Int.cast_ofNat_Int]) | ((with_reducible refine x_gIs hq ?_); try simp only [Int.cast_ofNat_Int]) | ((with_reducible refine x_ob ?_ ?_); rfl) | (with_reducible refine x_obs hq ?_) | (with_reducible refine x_lI ?_) | (with_reducible refine x_lJ ?_) | (with_reducible refine x_le (by omega) (by omega) (fun h => ?_) (fun h => ?_)) | (with_reducible refine x_lt (by omega) (by omega) (fun h => ?_) (fun h => ?_)) | (with_reducible refine x_eq (by omega) (by omega) (fun h => ?_) (fun h => ?_)) | (with_reducible refine x_brT ?_) | (with_reducible refine x_brF ?_) | (with_reducible refine x_rI ?_) | (with_reducible refine x_rV ?_) | (with_reducible refine x_rJ ?_) | (with_reducible refine x_rZ (by omega) ?_) | (with_reducible refine x_rO ?_) | (with_reducible refine x_thr ?_) | ((with_reducible refine x_pI ?_ ?_); rfl; try simp only [Int.cast_ofNat_Int]) | ((with_reducible refine x_pIs hq ?_); try simp only [Int.cast_ofNat_Int]) | ((with_reducible refine x_pZ ?_ (by omega) ?_); rfl; try simp only [Int.cast_ofNat_Int]) | ((with_reducible refine x_pZs hq (by omega) ?_); try simp only [Int.cast_ofNat_Int]) | (with_reducible refine x_pR ?_) | ((with_reducible apply x_aI); (first | assumption | rfl | exact (kb_st _ hq).2.1 | exact (kb_st _ hq).2.2.1 _ (by omega) (by omega) | exact (kb_st _ hq).2.2.2.1 _ (by omega) (by omega)); omega; omega; omega) | ((with_reducible apply x_sA); (first | assumption | rfl | exact (kb_st _ hq).2.1 | exact (kb_st _ hq).2.2.1 _ (by omega) (by omega) | exact (kb_st _ hq).2.2.2.1 _ (by omega) (by omega)); omega; omega; omega) | ((with_reducible apply x_aL); (first | assumption | rfl | exact (kb_st _ hq).2.1 | exact (kb_st _ hq).2.2.1 _ (by omega) (by omega) | exact (kb_st _ hq).2.2.2.1 _ (by omega) (by omega)); omega) | ((with_reducible apply x_cI); (with_reducible apply sp_X11_marks); (focus (repeat' first | assumption | exact Rst.up (by assumption) (by omega) | refine Rst.up ?_ (by omega) | refine Rwl.up ?_ (by omega) | refine Rrw.up ?_ (by omega)))) | ((with_reducible apply x_aB); rfl; omega; omega; omega; omega) | ((with_reducible apply x_sZ); rfl; omega; omega; omega; omega) | ((with_reducible refine x_nz ?_ ?_ ?_ ?_); omega; omega; omega) | ((with_reducible refine x_nzl ?_ ?_ ?_ ?_); omega; omega; omega) | (simp (disch := omega) only [Int.cast_ofNat_Int, Int.natCast_add, Int.toNat_natCast, i32_add, i32_sub, i32_mul, i32_neg, i32_lit, i64_add, i64_sub, i64_mul, i64_neg, i64_lit, i64_int, c8, i32_long, up_self, up_q, up_k]))
      all_goals (first | omega | exact h3)
  · rintro av μ ⟨rfl, rfl⟩
    dsimp only [bX11_edges, bX11_edges_1]
    rw [show (144 : Int32) = i32 144 from rfl]
    exact x_le (by omega) (by omega) (fun h => x_rI hQ) (fun h => by omega)
theorem sp_X11_takenEdges (hR : Rk I V) (hQ : Q (.inl (some (.int (i32 (ct (fT (forest V)) 144 : Nat))))) (ME e I J)) : SX11_takenEdges [.ref 200] (ME e I J) Q := by
  refine x_in (Nat.le_of_ble_eq_true rfl) ?_
  dsimp only [bX11_takenEdges, bX11_takenEdges_0]
  refine x_for 144 (fun i av μ => av = [.ref 200, .int (i32 (ct (fT (forest V)) i : Nat)), .int (i32 i)] ∧ μ = ME e I J) ?_ ?_ (Nat.zero_le _) ⟨by simp [Int.cast_ofNat_Int, Int.natCast_add, Int.toNat_natCast, i32_add, i32_sub, i32_mul, i32_neg, i32_lit, i64_add, i64_sub, i64_mul, i64_neg, i64_lit, i64_int, ct], rfl⟩
  · rintro i av μ hi ⟨rfl, rfl⟩ hJ
    dsimp only [bX11_takenEdges, bX11_takenEdges_1]
    have t8 := hR.2.1 i (by omega) (by omega)
    have hs : ct (fT (forest V)) (i + 1) = ct (fT (forest V)) i + (if fT (forest V) i = true then 1 else 0) := rfl
    by_cases hT : fT (forest V) i = true
    · rw [if_pos hT] at hs t8
      have h3 := hJ [.ref 200, .int (i32 ((ct (fT (forest V)) i : Nat) + 1)), .int (i32 ((i : Int) + 1))] (ME e I J) ⟨by rw [hs]; simp only [Int.cast_ofNat_Int, Int.natCast_add, Int.toNat_natCast, i32_add, i32_sub, i32_mul, i32_neg, i32_lit, i64_add, i64_sub, i64_mul, i64_neg, i64_lit, i64_int, Int.natCast_one], rfl⟩
      (repeat' first | ((with_reducible apply x_gR); rfl; rfl) | ((with_reducible apply x_gRs hq); rfl) | ((with_reducible refine x_gI ?_ ?_); rfl; try simp only [Int.cast_ofNat_Int]) | ((with_reducible refine x_gIs hq ?_); try simp only [Int.cast_ofNat_Int]) | ((with_reducible refine x_ob ?_ ?_); rfl) | (with_reducible refine x_obs hq ?_) | (with_reducible refine x_lI ?_) | (with_reducible refine x_lJ ?_) | (with_reducible refine x_le (by omega) (by omega) (fun h => ?_) (fun h => ?_)) | (with_reducible refine x_lt (by omega) (by omega) (fun h => ?_) (fun h => ?_)) | (with_reducible refine x_eq (by omega) (by omega) (fun h => ?_) (fun h => ?_)) | (with_reducible refine x_brT ?_) | (with_reducible refine x_brF ?_) | (with_reducible refine x_rI ?_) | (with_reducible refine x_rV ?_) | (with_reducible refine x_rJ ?_) | (with_reducible refine x_rZ (by omega) ?_) | (with_reducible refine x_rO ?_) | (with_reducible refine x_thr ?_) | ((with_reducible refine x_pI ?_ ?_); rfl; try simp only [Int.cast_ofNat_Int]) | ((with_reducible refine x_pIs hq ?_); try simp only [Int.cast_ofNat_Int]) | ((with_reducible refine x_pZ ?_ (by omega) ?_); rfl; try simp only [Int.cast_ofNat_Int]) | ((with_reducible refine x_pZs hq (by omega) ?_); try simp only [Int.cast_ofNat_Int]) | (with_reducible refine x_pR ?_) | ((with_reducible apply x_aI); (first | assumption | rfl | exact (kb_st _ hq).2.1 | exact (kb_st _ hq).2.2.1 _ (by omega) (by omega) | exact (kb_st _ hq).2.2.2.1 _ (by omega) (by omega)); omega; omega; omega) | ((with_reducible apply x_sA); (first | assumption | rfl | exact (kb_st _ hq).2.1 | exact (kb_st _ hq).2.2.1 _ (by omega) (by omega) | exact (kb_st _ hq).2.2.2.1 _ (by omega) (by omega)); omega; omega; omega) | ((with_reducible apply x_aL); (first | assumption | rfl | exact (kb_st _ hq).2.1 | exact (kb_st _ hq).2.2.1 _ (by omega) (by omega) | exact (kb_st _ hq).2.2.2.1 _ (by omega) (by omega)); omega) | ((with_reducible apply x_cI); (with_reducible apply sp_X11_marks); (focus (repeat' first | assumption | exact Rst.up (by assumption) (by omega) | refine Rst.up ?_ (by omega) | refine Rwl.up ?_ (by omega) | refine Rrw.up ?_ (by omega)))) | ((with_reducible apply x_aB); rfl; omega; omega; omega; omega) | ((with_reducible apply x_sZ); rfl; omega; omega; omega; omega) | ((with_reducible refine x_nz ?_ ?_ ?_ ?_); omega; omega; omega) | ((with_reducible refine x_nzl ?_ ?_ ?_ ?_); omega; omega; omega) | (simp (disch := omega) only [Int.cast_ofNat_Int, Int.natCast_add, Int.toNat_natCast, i32_add, i32_sub, i32_mul, i32_neg, i32_lit, i64_add, i64_sub, i64_mul, i64_neg, i64_lit, i64_int, t8, i32_long, up_self, up_q, up_k]))
      all_goals (first | omega | exact h3)
    · rw [if_neg hT] at hs t8
      have h3 := hJ [.ref 200, .int (i32 (ct (fT (forest V)) i : Nat)), .int (i32 ((i : Int) + 1))] (ME e I J) ⟨by rw [hs]; simp only [Int.cast_ofNat_Int, Int.natCast_add, Int.toNat_natCast, i32_add, i32_sub, i32_mul, i32_neg, i32_lit, i64_add, i64_sub, i64_mul, i64_neg, i64_lit, i64_int, Nat.add_zero], rfl⟩
      (repeat' first | ((with_reducible apply x_gR); rfl; rfl) | ((with_reducible apply x_gRs hq); rfl) | ((with_reducible refine x_gI ?_ ?_); rfl; try simp only [Int.cast_ofNat_Int]) | ((with_reducible refine x_gIs hq ?_); try simp only [Int.cast_ofNat_Int]) | ((with_reducible refine x_ob ?_ ?_); rfl) | (with_reducible refine x_obs hq ?_) | (with_reducible refine x_lI ?_) | (with_reducible refine x_lJ ?_) | (with_reducible refine x_le (by omega) (by omega) (fun h => ?_) (fun h => ?_)) | (with_reducible refine x_lt (by omega) (by omega) (fun h => ?_) (fun h => ?_)) | (with_reducible refine x_eq (by omega) (by omega) (fun h => ?_) (fun h => ?_)) | (with_reducible refine x_brT ?_) | (with_reducible refine x_brF ?_) | (with_reducible refine x_rI ?_) | (with_reducible refine x_rV ?_) | (with_reducible refine x_rJ ?_) | (with_reducible refine x_rZ (by omega) ?_) | (with_reducible refine x_rO ?_) | (with_reducible refine x_thr ?_) | ((with_reducible refine x_pI ?_ ?_); rfl; try simp only [Int.cast_ofNat_Int]) | ((with_reducible refine x_pIs hq ?_); try simp only [Int.cast_ofNat_Int]) | ((with_reducible refine x_pZ ?_ (by omega) ?_); rfl; try simp only [Int.cast_ofNat_Int]) | ((with_reducible refine x_pZs hq (by omega) ?_); try simp only [Int.cast_ofNat_Int]) | (with_reducible refine x_pR ?_) | ((with_reducible apply x_aI); (first | assumption | rfl | exact (kb_st _ hq).2.1 | exact (kb_st _ hq).2.2.1 _ (by omega) (by omega) | exact (kb_st _ hq).2.2.2.1 _ (by omega) (by omega)); omega; omega; omega) | ((with_reducible apply x_sA); (first | assumption | rfl | exact (kb_st _ hq).2.1 | exact (kb_st _ hq).2.2.1 _ (by omega) (by omega) | exact (kb_st _ hq).2.2.2.1 _ (by omega) (by omega)); omega; omega; omega) | ((with_reducible apply x_aL); (first | assumption | rfl | exact (kb_st _ hq).2.1 | exact (kb_st _ hq).2.2.1 _ (by omega) (by omega) | exact (kb_st _ hq).2.2.2.1 _ (by omega) (by omega)); omega) | ((with_reducible apply x_cI); (with_reducible apply sp_X11_marks); (focus (repeat' first | assumption | exact Rst.up (by assumption) (by omega) | refine Rst.up ?_ (by omega) | refine Rwl.up ?_ (by omega) | refine Rrw.up ?_ (by omega)))) | ((with_reducible apply x_aB); rfl; omega; omega; omega; omega) | ((with_reducible apply x_sZ); rfl; omega; omega; omega; omega) | ((with_reducible refine x_nz ?_ ?_ ?_ ?_); omega; omega; omega) | ((with_reducible refine x_nzl ?_ ?_ ?_ ?_); omega; omega; omega) | (simp (disch := omega) only [Int.cast_ofNat_Int, Int.natCast_add, Int.toNat_natCast, i32_add, i32_sub, i32_mul, i32_neg, i32_lit, i64_add, i64_sub, i64_mul, i64_neg, i64_lit, i64_int, t8, i32_long, up_self, up_q, up_k]))
      all_goals (first | omega | exact h3)
  · rintro av μ ⟨rfl, rfl⟩
    dsimp only [bX11_takenEdges, bX11_takenEdges_1]
    rw [show (144 : Int32) = i32 144 from rfl]
    exact x_le (by omega) (by omega) (fun h => x_rI hQ) (fun h => by omega)
theorem lk_split (hG : Good V) : ∀ n : Nat, rk V n = ct (fT (forest V)) n + lk V n := by
  intro n
  have T := fd_TI hG
  induction n with
  | zero => rfl
  | succ n ih =>
    rw [rk_succ, lk_succ, show ct (fT (forest V)) (n + 1) = ct (fT (forest V)) n + (if fT (forest V) n = true then 1 else 0) from rfl, ih]
    have h := T.2.2.2.2 (n : Int)
    unfold isL
    cases hE : isE V n <;> cases hT : fT (forest V) n
    · simp
    · have := h hT; rw [hE] at this; exact absurd this (by decide)
    · simp; omega
    · simp; omega
theorem sp_X11_loops (hG : Good V) (hR : Rk I V) (hQ : Q (.inl (some (.int (i32 (nL V))))) (ME e I J)) : SX11_loops [.ref 200] (ME e I J) Q := by
  refine x_in (Nat.le_of_ble_eq_true rfl) ?_
  dsimp only [bX11_loops, bX11_loops_0]
  have s := lk_split hG 144
  refine x_ob rfl (x_cI (sp_X11_edges hG hR (x_ob rfl (x_cI (sp_X11_takenEdges hR ?_)))))
  dsimp only
  rw [i32_sub, show (nE V : Int) - (ct (fT (forest V)) 144 : Nat) = nL V by unfold nE nL; omega]
  exact x_rI hQ
end Close74
