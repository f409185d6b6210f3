/-! ===== the reference: its loops ===== -/
/-- only the way changes -/
def Wf (I I' : IM) : Prop := (∀ q, q ≠ 200 → q ≠ 213 → I' q = I q) ∧ ∀ k, k ≠ 17 → I' 200 k = I 200 k
theorem Wf.rk {I I' : IM} {V : Vw} (h : Wf I I') (hR : Rk I V) : Rk I' V := by
  unfold Rk at *
  refine ⟨hR.1.keep (h.2 10 (by omega)) (h.1 208 (by omega) (by omega)) (h.1 209 (by omega) (by omega)) (h.1 210 (by omega) (by omega)), ?_, ?_⟩
  · rw [h.1 211 (by omega) (by omega)]; exact hR.2.1
  · rw [h.1 212 (by omega) (by omega)]; exact hR.2.2
theorem Wf.rw' {I I' : IM} {V : Vw} (h : Wf I I') (hW : Rrw I 201 0 V) : Rrw I' 201 0 V := hW.keep (h.1 201 (by omega) (by omega))
theorem Wf.trans {I I' I2 : IM} (h : Wf I I') (h2 : Wf I' I2) : Wf I I2 := ⟨fun q a b => by rw [h2.1 q a b, h.1 q a b], fun k a => by rw [h2.2 k a, h.2 k a]⟩
theorem Wf.refl (I : IM) : Wf I I := ⟨fun _ _ _ => rfl, fun _ _ => rfl⟩
/-- the way from x to t lies written -/
def Wy (I : IM) (V : Vw) (x t : Int) : Prop := I 200 17 = fd V x t + 1 ∧ ∀ i : Nat, (i : Int) ≤ fd V x t → I 213 i = pth V t x i
section Loop73
variable {e : Nat} {I J : IM} {Q : Post} {V : Vw} {x t : Int}
theorem sp_X11_loopEdge (hG : Good V) (hR : Rk I V) {k : Nat} (hk : k < 144) (hL : isL V k = true) (hQ : Q (.inl (some (.int (i32 k)))) (ME e I J)) : SX11_loopEdge [.ref 200, .int (i32 (lk V k))] (ME e I J) Q := by
  refine x_in (Nat.le_of_ble_eq_true rfl) ?_
  dsimp only [bX11_loopEdge, bX11_loopEdge_0]
  have hle : ∀ j : Nat, j ≤ k → lk V j ≤ lk V k := fun j h => ct_mono _ h
  have kb : lk V k ≤ 144 := Nat.le_trans (ct_le _ _) (by omega)
  refine x_for (k + 1) (fun i av μ => i ≤ k ∧ av = [.ref 200, .int (i32 ((lk V k : Int) - lk V i)), .int (i32 i)] ∧ μ = ME e I J) ?_ ?_ (Nat.zero_le _) ⟨by omega, by rw [show lk V 0 = 0 from rfl]; simp [Int.cast_ofNat_Int, Int.natCast_add, Int.toNat_natCast, i32_add, i32_sub, i32_mul, i32_neg, i32_lit, i64_add, i64_sub, i64_mul, i64_neg, i64_lit, i64_int], rfl⟩
  · rintro i av μ hi ⟨hik, rfl, rfl⟩ hJ
    dsimp only [bX11_loopEdge, bX11_loopEdge_1]
    have c8 := hR.1.2.1 i (by omega) (by omega)
    have t8 := hR.2.1 i (by omega) (by omega)
    have nn := cnt_rg V i
    have n40 := hG.2.1
    have hs := lk_succ (V := V) (k := i)
    have h1 := hle i hik
    by_cases hE : isE V i = true
    · have := isE_iff.mp hE
      by_cases hT : fT (forest V) i = true
      · rw [if_pos hT] at t8
        have hl : isL V i = false := by unfold isL; rw [hT, hE]; rfl
        rw [if_neg (by rw [hl]; decide)] at hs
        have hne : i ≠ k := fun q => by rw [q, hL] at hl; exact absurd hl (by decide)
        have h3 := hJ [.ref 200, .int (i32 ((lk V k : Int) - lk V i)), .int (i32 ((i : Int) + 1))] (ME e I J) ⟨by omega, by rw [hs]; simp only [Int.cast_ofNat_Int, Int.natCast_add, Int.toNat_natCast, i32_add, i32_sub, i32_mul, i32_neg, i32_lit, i64_add, i64_sub, i64_mul, i64_neg, i64_lit, i64_int, Nat.add_zero], rfl⟩
        (repeat' first | ((with_reducible apply x_gR); rfl; rfl) | ((with_reducible apply x_gRs hq); rfl) | ((with_reducible refine x_gI ?_ ?_); rfl; try simp only [Int.cast_ofNat_Int]) | ((with_reducible refine x_gIs hq ?_); try simp only [Int.cast_ofNat_Int]) | ((with_reducible refine x_ob ?_ ?_); rfl) | (with_reducible refine x_obs hq ?_) | (with_reducible refine x_lI ?_) | (with_reducible refine x_lJ ?_) | (with_reducible refine x_le (by omega) (by omega) (fun h => ?_) (fun h => ?_)) | (with_reducible refine x_lt (by omega) (by omega) (fun h => ?_) (fun h => ?_)) | (with_reducible refine x_eq (by omega) (by omega) (fun h => ?_) (fun h => ?_)) | (with_reducible refine x_brT ?_) | (with_reducible refine x_brF ?_) | (with_reducible refine x_rI ?_) | (with_reducible refine x_rV ?_) | (with_reducible refine x_rJ ?_) | (with_reducible refine x_rZ (by omega) ?_) | (with_reducible refine x_rO ?_) | (with_reducible refine x_thr ?_) | ((with_reducible refine x_pI ?_ ?_); rfl; try simp only [Int.cast_ofNat_Int]) | ((with_reducible refine x_pIs hq ?_); try simp only [Int.cast_ofNat_Int]) | ((with_reducible refine x_pZ ?_ (by omega) ?_); rfl; try simp only [Int.cast_ofNat_Int]) | ((with_reducible refine x_pZs hq (by omega) ?_); try simp only [Int.cast_ofNat_Int]) | (with_reducible refine x_pR ?_) | ((with_reducible apply x_aI); (first | assumption | rfl | exact (kb_st _ hq).2.1 | exact (kb_st _ hq).2.2.1 _ (by omega) (by omega) | exact (kb_st _ hq).2.2.2.1 _ (by omega) (by omega)); omega; omega; omega) | ((with_reducible apply x_sA); (first | assumption | rfl | exact (kb_st _ hq).2.1 | exact (kb_st _ hq).2.2.1 _ (by omega) (by omega) | exact (kb_st _ hq).2.2.2.1 _ (by omega) (by omega)); omega; omega; omega) | ((with_reducible apply x_aL); (first | assumption | rfl | exact (kb_st _ hq).2.1 | exact (kb_st _ hq).2.2.1 _ (by omega) (by omega) | exact (kb_st _ hq).2.2.2.1 _ (by omega) (by omega)); omega) | ((with_reducible apply x_cI); (with_reducible apply sp_X11_marks); (focus (repeat' first | assumption | exact Rst.up (by assumption) (by omega) | refine Rst.up ?_ (by omega) | refine Rwl.up ?_ (by omega) | refine Rrw.up ?_ (by omega)))) | ((with_reducible apply x_aB); rfl; omega; omega; omega; omega) | ((with_reducible apply x_sZ); rfl; omega; omega; omega; omega) | ((with_reducible refine x_nz ?_ ?_ ?_ ?_); omega; omega; omega) | ((with_reducible refine x_nzl ?_ ?_ ?_ ?_); omega; omega; omega) | (simp (disch := omega) only [Int.cast_ofNat_Int, Int.natCast_add, Int.toNat_natCast, i32_add, i32_sub, i32_mul, i32_neg, i32_lit, i64_add, i64_sub, i64_mul, i64_neg, i64_lit, i64_int, c8, t8, i32_long, up_self, up_q, up_k]))
        all_goals (first | omega | exact h3)
      · rw [if_neg hT] at t8
        have hl : isL V i = true := by unfold isL; rw [hE]; simp at hT; rw [hT]; rfl
        rw [if_pos hl] at hs
        by_cases hik2 : i = k
        · subst hik2
          (repeat' first | ((with_reducible apply x_gR); rfl; rfl) | ((with_reducible apply x_gRs hq); rfl) | ((with_reducible refine x_gI ?_ ?_); rfl; try simp only [Int.cast_ofNat_Int]) | ((with_reducible refine x_gIs hq ?_); try simp only [Int.cast_ofNat_Int]) | ((with_reducible refine x_ob ?_ ?_); rfl) | (with_reducible refine x_obs hq ?_) | (with_reducible refine x_lI ?_) | (with_reducible refine x_lJ ?_) | (with_reducible refine x_le (by omega) (by omega) (fun h => ?_) (fun h => ?_)) | (with_reducible refine x_lt (by omega) (by omega) (fun h => ?_) (fun h => ?_)) | (with_reducible refine x_eq (by omega) (by omega) (fun h => ?_) (fun h => ?_)) | (with_reducible refine x_brT ?_) | (with_reducible refine x_brF ?_) | (with_reducible refine x_rI ?_) | (with_reducible refine x_rV ?_) | (with_reducible refine x_rJ ?_) | (with_reducible refine x_rZ (by omega) ?_) | (with_reducible refine x_rO ?_) | (with_reducible refine x_thr ?_) | ((with_reducible refine x_pI ?_ ?_); rfl; try simp only [Int.cast_ofNat_Int]) | ((with_reducible refine x_pIs hq ?_); try simp only [Int.cast_ofNat_Int]) | ((with_reducible refine x_pZ ?_ (by omega) ?_); rfl; try simp only [Int.cast_ofNat_Int]) | ((with_reducible refine x_pZs hq (by omega) ?_); try simp only [Int.cast_ofNat_Int]) | (with_reducible refine x_pR ?_) | ((with_reducible apply x_aI); (first | assumption | rfl | exact (kb_st _ hq).2.1 | exact (kb_st _ hq).2.2.1 _ (by omega) (by omega) | exact (kb_st _ hq).2.2.2.1 _ (by omega) (by omega)); omega; omega; omega) | ((with_reducible apply x_sA); (first | assumption | rfl | exact (kb_st _ hq).2.1 | exact (kb_st _ hq).2.2.1 _ (by omega) (by omega) | exact (kb_st _ hq).2.2.2.1 _ (by omega) (by omega)); omega; omega; omega) | ((with_reducible apply x_aL); (first | assumption | rfl | exact (kb_st _ hq).2.1 | exact (kb_st _ hq).2.2.1 _ (by omega) (by omega) | exact (kb_st _ hq).2.2.2.1 _ (by omega) (by omega)); omega) | ((with_reducible apply x_cI); (with_reducible apply sp_X11_marks); (focus (repeat' first | assumption | exact Rst.up (by assumption) (by omega) | refine Rst.up ?_ (by omega) | refine Rwl.up ?_ (by omega) | refine Rrw.up ?_ (by omega)))) | ((with_reducible apply x_aB); rfl; omega; omega; omega; omega) | ((with_reducible apply x_sZ); rfl; omega; omega; omega; omega) | ((with_reducible refine x_nz ?_ ?_ ?_ ?_); omega; omega; omega) | ((with_reducible refine x_nzl ?_ ?_ ?_ ?_); omega; omega; omega) | (simp (disch := omega) only [Int.cast_ofNat_Int, Int.natCast_add, Int.toNat_natCast, i32_add, i32_sub, i32_mul, i32_neg, i32_lit, i64_add, i64_sub, i64_mul, i64_neg, i64_lit, i64_int, c8, t8, i32_long, up_self, up_q, up_k]))
          all_goals (first | omega | exact hQ)
        · have h4 := hle (i + 1) (by omega)
          have h3 := hJ [.ref 200, .int (i32 ((lk V k : Int) - lk V i - 1)), .int (i32 ((i : Int) + 1))] (ME e I J) ⟨by omega, by rw [hs, show (lk V k : Int) - ((lk V i + 1 : Nat) : Int) = (lk V k : Int) - lk V i - 1 by omega]; simp only [Int.cast_ofNat_Int, Int.natCast_add, Int.toNat_natCast, i32_add, i32_sub, i32_mul, i32_neg, i32_lit, i64_add, i64_sub, i64_mul, i64_neg, i64_lit, i64_int], rfl⟩
          (repeat' first | ((with_reducible apply x_gR); rfl; rfl) | ((with_reducible apply x_gRs hq); rfl) | ((with_reducible refine x_gI ?_ ?_); rfl; try simp only [Int.cast_ofNat_Int]) | ((with_reducible refine x_gIs hq ?_); try simp only [Int.cast_ofNat_Int]) | ((with_reducible refine x_ob ?_ ?_); rfl) | (with_reducible refine x_obs hq ?_) | (with_reducible refine x_lI ?_) | (with_reducible refine x_lJ ?_) | (with_reducible refine x_le (by omega) (by omega) (fun h => ?_) (fun h => ?_)) | (with_reducible refine x_lt (by omega) (by omega) (fun h => ?_) (fun h => ?_)) | (with_reducible refine x_eq (by omega) (by omega) (fun h => ?_) (fun h => ?_)) | (with_reducible refine x_brT ?_) | (with_reducible refine x_brF ?_) | (with_reducible refine x_rI ?_) | (with_reducible refine x_rV ?_) | (with_reducible refine x_rJ ?_) | (with_reducible refine x_rZ (by omega) ?_) | (with_reducible refine x_rO ?_) | (with_reducible refine x_thr ?_) | ((with_reducible refine x_pI ?_ ?_); rfl; try simp only [Int.cast_ofNat_Int]) | ((with_reducible refine x_pIs hq ?_); try simp only [Int.cast_ofNat_Int]) | ((with_reducible refine x_pZ ?_ (by omega) ?_); rfl; try simp only [Int.cast_ofNat_Int]) | ((with_reducible refine x_pZs hq (by omega) ?_); try simp only [Int.cast_ofNat_Int]) | (with_reducible refine x_pR ?_) | ((with_reducible apply x_aI); (first | assumption | rfl | exact (kb_st _ hq).2.1 | exact (kb_st _ hq).2.2.1 _ (by omega) (by omega) | exact (kb_st _ hq).2.2.2.1 _ (by omega) (by omega)); omega; omega; omega) | ((with_reducible apply x_sA); (first | assumption | rfl | exact (kb_st _ hq).2.1 | exact (kb_st _ hq).2.2.1 _ (by omega) (by omega) | exact (kb_st _ hq).2.2.2.1 _ (by omega) (by omega)); omega; omega; omega) | ((with_reducible apply x_aL); (first | assumption | rfl | exact (kb_st _ hq).2.1 | exact (kb_st _ hq).2.2.1 _ (by omega) (by omega) | exact (kb_st _ hq).2.2.2.1 _ (by omega) (by omega)); omega) | ((with_reducible apply x_cI); (with_reducible apply sp_X11_marks); (focus (repeat' first | assumption | exact Rst.up (by assumption) (by omega) | refine Rst.up ?_ (by omega) | refine Rwl.up ?_ (by omega) | refine Rrw.up ?_ (by omega)))) | ((with_reducible apply x_aB); rfl; omega; omega; omega; omega) | ((with_reducible apply x_sZ); rfl; omega; omega; omega; omega) | ((with_reducible refine x_nz ?_ ?_ ?_ ?_); omega; omega; omega) | ((with_reducible refine x_nzl ?_ ?_ ?_ ?_); omega; omega; omega) | (simp (disch := omega) only [Int.cast_ofNat_Int, Int.natCast_add, Int.toNat_natCast, i32_add, i32_sub, i32_mul, i32_neg, i32_lit, i64_add, i64_sub, i64_mul, i64_neg, i64_lit, i64_int, c8, t8, i32_long, up_self, up_q, up_k]))
          all_goals (first | omega | exact h3)
    · have : ¬ 0 < cnt V i := fun q => hE (isE_iff.mpr q)
      have hl : isL V i = false := by unfold isL; simp at hE; rw [hE]; rfl
      rw [if_neg (by rw [hl]; decide)] at hs
      have hne : i ≠ k := fun q => by rw [q, hL] at hl; exact absurd hl (by decide)
      have h3 := hJ [.ref 200, .int (i32 ((lk V k : Int) - lk V i)), .int (i32 ((i : Int) + 1))] (ME e I J) ⟨by omega, by rw [hs]; simp only [Int.cast_ofNat_Int, Int.natCast_add, Int.toNat_natCast, i32_add, i32_sub, i32_mul, i32_neg, i32_lit, i64_add, i64_sub, i64_mul, i64_neg, i64_lit, i64_int, Nat.add_zero], rfl⟩
      (repeat' first | ((with_reducible apply x_gR); rfl; rfl) | ((with_reducible apply x_gRs hq); rfl) | ((with_reducible refine x_gI ?_ ?_); rfl; try simp only [Int.cast_ofNat_Int]) | ((with_reducible refine x_gIs hq ?_); try simp only [Int.cast_ofNat_Int]) | ((with_reducible refine x_ob ?_ ?_); rfl) | (with_reducible refine x_obs hq ?_) | (with_reducible refine x_lI ?_) | (with_reducible refine x_lJ ?_) | (with_reducible refine x_le (by omega) (by omega) (fun h => ?_) (fun h => ?_)) | (with_reducible refine x_lt (by omega) (by omega) (fun h => ?_) (fun h => ?_)) | (with_reducible refine x_eq (by omega) (by omega) (fun h => ?_) (fun h => ?_)) | (with_reducible refine x_brT ?_) | (with_reducible refine x_brF ?_) | (with_reducible refine x_rI ?_) | (with_reducible refine x_rV ?_) | (with_reducible refine x_rJ ?_) | (with_reducible refine x_rZ (by omega) ?_) | (with_reducible refine x_rO ?_) | (with_reducible refine x_thr ?_) | ((with_reducible refine x_pI ?_ ?_); rfl; try simp only [Int.cast_ofNat_Int]) | ((with_reducible refine x_pIs hq ?_); try simp only [Int.cast_ofNat_Int]) | ((with_reducible refine x_pZ ?_ (by omega) ?_); rfl; try simp only [Int.cast_ofNat_Int]) | ((with_reducible refine x_pZs hq (by omega) ?_); try simp only [Int.cast_ofNat_Int]) | (with_reducible refine x_pR ?_) | ((with_reducible apply x_aI); (first | assumption | rfl | exact (kb_st _ hq).2.1 | exact (kb_st _ hq).2.2.1 _ (by omega) (by omega) | exact (kb_st _ hq).2.2.2.1 _ (by omega) (by omega)); omega; omega; omega) | ((with_reducible apply x_sA); (first | assumption | rfl | exact (kb_st _ hq).2.1 | exact (kb_st _ hq).2.2.1 _ (by omega) (by omega) | exact (kb_st _ hq).2.2.2.1 _ (by omega) (by omega)); omega; omega; omega) | ((with_reducible apply x_aL); (first | assumption | rfl | exact (kb_st _ hq).2.1 | exact (kb_st _ hq).2.2.1 _ (by omega) (by omega) | exact (kb_st _ hq).2.2.2.1 _ (by omega) (by omega)); omega) | ((with_reducible apply x_cI); (with_reducible apply sp_X11_marks); (focus (repeat' first | assumption | exact Rst.up (by assumption) (by omega) | refine Rst.up ?_ (by omega) | refine Rwl.up ?_ (by omega) | refine Rrw.up ?_ (by omega)))) | ((with_reducible apply x_aB); rfl; omega; omega; omega; omega) | ((with_reducible apply x_sZ); rfl; omega; omega; omega; omega) | ((with_reducible refine x_nz ?_ ?_ ?_ ?_); omega; omega; omega) | ((with_reducible refine x_nzl ?_ ?_ ?_ ?_); omega; omega; omega) | (simp (disch := omega) only [Int.cast_ofNat_Int, Int.natCast_add, Int.toNat_natCast, i32_add, i32_sub, i32_mul, i32_neg, i32_lit, i64_add, i64_sub, i64_mul, i64_neg, i64_lit, i64_int, c8, t8, i32_long, up_self, up_q, up_k]))
      all_goals (first | omega | exact h3)
  · rintro av μ ⟨h, rfl, rfl⟩
    omega
theorem sp_X11_goesLoop (hG : Good V) (hW : Rrw I 201 0 V) (hR : Rk I V) {k : Nat} (hk : k < 144) (hL : isL V k = true)
    (hQ : ∀ I' : IM, Wf I I' → Wy I' V (k % 12) (k / 12) → Q (.inl none) (ME e I' J)) : SX11_goesLoop [.ref 200, .int (i32 (lk V k))] (ME e I J) Q := by
  refine x_in (Nat.le_of_ble_eq_true rfl) ?_
  dsimp only [bX11_goesLoop, bX11_goesLoop_0]
  have c := gd_E hG (isE_iff.mp (isL_E hL).1)
  have j := E_jn hG (isL_E hL).1
  refine x_ob rfl (x_cI (sp_X11_loopEdge hG hR hk hL ?_))
  rw [show (12 : Int32) = i32 12 from rfl]
  refine x_nz (by omega) (by omega) (by omega) (x_nz (by omega) (by omega) (by omega) ?_)
  rw [i32_div (by omega) (by omega) (by omega) (by omega), Int.tdiv_eq_ediv_of_nonneg (by omega), i32_mul, i32_sub, show (k : Int) - k / 12 * 12 = k % 12 by omega]
  refine x_ob rfl (x_cI (sp_X11_findsWay hG (by omega) (by omega) hW hR fun I' f1 f2 => ⟨fun h a b => x_rV (hQ I' ⟨f1, f2⟩ ⟨a, b⟩), fun h => absurd j.2.2 h⟩))
theorem sp_X11_sumOfWay (hG : Good V) (hR : Rk I V) (hx : mark12 x) (ht : mark12 t) (hj : jn V x t) (hy : Wy I V x t) (hQ : Q (.inl (some (.int (i32 (fC (forest V) x t))))) (ME e I J)) : SX11_sumOfWay [.ref 200] (ME e I J) Q := by
  refine x_in (Nat.le_of_ble_eq_true rfl) ?_
  dsimp only [bX11_sumOfWay, bX11_sumOfWay_0]
  have T := fd_TI hG
  have d := fd_rg hG hx ht hj
  obtain ⟨D, hD⟩ : ∃ D : Nat, (D : Int) = fd V x t := ⟨(fd V x t).toNat, by omega⟩
  have h17 : I 200 17 = (D : Int) + 1 := by rw [hy.1, hD]
  refine x_for D (fun i av μ => av = [.ref 200, .int (i32 (fC (forest V) x t - fC (forest V) (pth V t x i) t)), .int (i32 ((i : Int) + 1))] ∧ μ = ME e I J) ?_ ?_ (Nat.zero_le _) ⟨by rw [show pth V t x 0 = x from rfl, Int.sub_self]; simp [Int.cast_ofNat_Int, Int.natCast_add, Int.toNat_natCast, i32_add, i32_sub, i32_mul, i32_neg, i32_lit, i64_add, i64_sub, i64_mul, i64_neg, i64_lit, i64_int], rfl⟩
  · rintro i av μ hi ⟨rfl, rfl⟩ hJ
    dsimp only [bX11_sumOfWay, bX11_sumOfWay_1]
    have s := pth_step hG hx ht hj (i := i) (by omega)
    have o1 := pth_ok hG hx ht hj i (by omega)
    have o2 := pth_ok hG hx ht hj (i + 1) (by omega)
    have y1 := hy.2 i (by omega)
    have y2 := hy.2 (i + 1) (by omega)
    have eT := T.2.2.2.2 _ s.2.2.1
    rw [show (1 : Int32) = i32 1 from rfl]
    refine x_gI rfl ?_
    rw [show I 200 ((17 : Nat) : Int) = (D : Int) + 1 from h17]
    refine x_le (by omega) (by omega) (fun h => by omega) (fun _ => ?_)
    rw [i32_sub, show (i : Int) + 1 - 1 = i by omega]
    refine x_gR rfl rfl (x_aI rfl (by omega) (by omega) (by omega) ?_)
    refine x_gR rfl rfl (x_aI rfl (by omega) (by omega) (by omega) ?_)
    rw [y1, show I 213 ((i : Int) + 1) = pth V t x (i + 1) from y2]
    refine x_ob rfl (x_cI (sp_X11_riseFrom hR.1 o1.1 o2.1 (fun h => s.2.1 h.symm) eT ?_))
    dsimp only
    rw [i32_add]
    refine x_lI ?_
    refine hJ _ _ ⟨?_, rfl⟩
    rw [show fC (forest V) x t - fC (forest V) (pth V t x i) t + rf V (pth V t x i) (pth V t x (i + 1)) = fC (forest V) x t - fC (forest V) (pth V t x (i + 1)) t by have := s.2.2.2; omega, i32_add]
    rfl
  · rintro av μ ⟨rfl, rfl⟩
    dsimp only [bX11_sumOfWay, bX11_sumOfWay_1]
    have pe := pth_end hG hx ht hj hD
    refine x_gI rfl ?_
    rw [show I 200 ((17 : Nat) : Int) = (D : Int) + 1 from h17]
    refine x_le (by omega) (by omega) (fun h => x_rI ?_) (fun h => by omega)
    rw [pe, (T.1 t ht).2.1, Int.sub_zero]
    exact hQ
theorem sp_X11_lengthOfWay (hG : Good V) (hW : Rrw I 201 0 V) {k : Nat} (hk : k < 144) (hL : isL V k = true) (hy : Wy I V (k % 12) (k / 12)) (hQ : Q (.inl (some (.int (i32 (pw V (k / 12) (k % 12) (lD V k)))))) (ME e I J)) : SX11_lengthOfWay [.ref 200] (ME e I J) Q := by
  refine x_in (Nat.le_of_ble_eq_true rfl) ?_
  dsimp only [bX11_lengthOfWay, bX11_lengthOfWay_0]
  have hE := (isL_E hL).1
  have d := lD_ok hG hE
  have h17 : I 200 17 = (lD V k : Int) + 1 := by rw [hy.1, d.1]
  have m := hG.1
  refine x_for (lD V k) (fun i av μ => av = [.ref 200, .int (i32 (pw V (k / 12) (k % 12) i)), .int (i32 ((i : Int) + 1))] ∧ μ = ME e I J) ?_ ?_ (Nat.zero_le _) ⟨by simp [Int.cast_ofNat_Int, Int.natCast_add, Int.toNat_natCast, i32_add, i32_sub, i32_mul, i32_neg, i32_lit, i64_add, i64_sub, i64_mul, i64_neg, i64_lit, i64_int, pw], rfl⟩
  · rintro i av μ hi ⟨rfl, rfl⟩ hJ
    dsimp only [bX11_lengthOfWay, bX11_lengthOfWay_1]
    have p1 := pth_m hG hE i (by omega)
    have p2 := pth_m hG hE (i + 1) (by omega)
    have y1 := hy.2 i (by omega)
    have y2 := hy.2 (i + 1) (by omega)
    rw [show (1 : Int32) = i32 1 from rfl]
    refine x_gI rfl ?_
    rw [show I 200 ((17 : Nat) : Int) = (lD V k : Int) + 1 from h17]
    refine x_le (by omega) (by omega) (fun h => by omega) (fun _ => ?_)
    rw [i32_sub, show (i : Int) + 1 - 1 = i by omega]
    refine x_gR rfl rfl (x_aI rfl (by omega) (by omega) (by omega) ?_)
    refine x_gR rfl rfl (x_aI rfl (by omega) (by omega) (by omega) ?_)
    rw [y1, show I 213 ((i : Int) + 1) = pth V (k / 12) (k % 12) (i + 1) from y2]
    refine x_ob rfl (x_cI (sp_X11_distance hG hW p1 p2 ?_))
    dsimp only
    rw [i32_add]
    refine x_lI ?_
    exact hJ _ _ ⟨by rw [i32_add]; rfl, rfl⟩
  · rintro av μ ⟨rfl, rfl⟩
    dsimp only [bX11_lengthOfWay, bX11_lengthOfWay_1]
    refine x_gI rfl ?_
    rw [show I 200 ((17 : Nat) : Int) = (lD V k : Int) + 1 from h17]
    exact x_le (by omega) (by omega) (fun h => x_rI hQ) (fun h => by omega)
theorem sp_X11_misclosure (hG : Good V) (hW : Rrw I 201 0 V) (hR : Rk I V) {k : Nat} (hk : k < 144) (hL : isL V k = true)
    (hQ : ∀ I' : IM, Wf I I' → Q (.inl (some (.int (i32 (lC V k))))) (ME e I' J)) : SX11_misclosure [.ref 200, .int (i32 (lk V k))] (ME e I J) Q := by
  refine x_in (Nat.le_of_ble_eq_true rfl) ?_
  dsimp only [bX11_misclosure, bX11_misclosure_0]
  have j := E_jn hG (isL_E hL).1
  refine x_ob rfl (x_cV (sp_X11_goesLoop hG hW hR hk hL fun I1 f1 y1 => ?_))
  have R1 := f1.rk hR
  refine x_gR rfl rfl (x_ob rfl (x_cI (sp_X11_loopEdge hG R1 hk hL ?_)))
  refine x_aI rfl (by omega) (by omega) (by omega) ?_
  rw [(R1.1.2.2 k (by omega) (by omega) (isL_E hL).1).1]
  refine x_ob rfl (x_cI (sp_X11_sumOfWay hG R1 j.2.1 j.1 j.2.2 y1 ?_))
  dsimp only
  rw [i32_add]
  exact x_rI (hQ I1 f1)
theorem sp_X11_wayOf (hG : Good V) (hW : Rrw I 201 0 V) (hR : Rk I V) {k : Nat} (hk : k < 144) (hL : isL V k = true)
    (hQ : ∀ I' : IM, Wf I I' → Q (.inl (some (.int (i32 (lW V k))))) (ME e I' J)) : SX11_wayOf [.ref 200, .int (i32 (lk V k))] (ME e I J) Q := by
  refine x_in (Nat.le_of_ble_eq_true rfl) ?_
  dsimp only [bX11_wayOf, bX11_wayOf_0]
  have c := gd_E hG (isE_iff.mp (isL_E hL).1)
  refine x_ob rfl (x_cV (sp_X11_goesLoop hG hW hR hk hL fun I1 f1 y1 => ?_))
  have R1 := f1.rk hR
  have W1 := f1.rw' hW
  refine x_ob rfl (x_cI (sp_X11_loopEdge hG R1 hk hL ?_))
  rw [show (12 : Int32) = i32 12 from rfl]
  refine x_nz (by omega) (by omega) (by omega) (x_nz (by omega) (by omega) (by omega) ?_)
  rw [i32_div (by omega) (by omega) (by omega) (by omega), Int.tdiv_eq_ediv_of_nonneg (by omega), i32_mul, i32_sub, show (k : Int) - k / 12 * 12 = k % 12 by omega]
  refine x_ob rfl (x_cI (sp_X11_distance hG W1 (by omega) (by omega) ?_))
  refine x_ob rfl (x_cI (sp_X11_lengthOfWay hG W1 hk hL y1 ?_))
  dsimp only
  rw [i32_add]
  exact x_rI (hQ I1 f1)
end Loop73
