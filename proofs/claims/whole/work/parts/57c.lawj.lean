/-! ===== the reference is asked: the worst loop, the suspect, tensions ===== -/
section Law93
variable {e : Nat} {I J : IM} {Q : Post} {V : Vw} {H : Hw} {a b v s w l x : Int}
theorem rq_worst (h : Rn I V H) : Rq0 SX11_worstLoop [.ref 200] e I J (lkI V (wst V 144)) := by
  intro Q hQ
  obtain ⟨hG, hGH, hB, hW, hH⟩ := h
  refine x_in (Nat.le_of_ble_eq_true rfl) ?_
  dsimp only [bX11_worstLoop, bX11_worstLoop_0]
  ((try rw [show (0 : Int32) = i32 (0) from rfl]); (try rw [show (-1 : Int32) = i32 (-1) from rfl]); (try simp only [i32_add, i32_sub, i32_mul, i32_neg]))
  have n40 := nL40 hG
  refine x_pI rfl ?_
  rw [show ((0 : Nat) : Int) = 0 from rfl, show (0 : Int64) = i64 0 from rfl, show (1 : Int64) = i64 1 from rfl]
  refine x_ob rfl (x_cV (sp_X11_reckons hG (Rfr.told.rw' hW) fun I1 f1 f1b R1 => ?_))
  have r1 := Rfr.told.trans (rkf0 f1 f1b).1
  have W1 := r1.rw' hW
  dsimp only
  refine x_for (nL V) (fun i av μ => ∃ (I' : IM) (K : Nat), K ≤ 144 ∧ lk V K = i ∧ av = [.ref 200, .int (i32 (lkI V (wst V K))), .long (i64 (if wst V K = -1 then 0 else lC V (wst V K) * lC V (wst V K))), .long (i64 (if wst V K = -1 then 1 else lW V (wst V K))), .int (i32 i)] ∧ μ = ME e I' J ∧ Wf I1 I') ?_ ?_ (Nat.zero_le _) ⟨I1, 0, by omega, rfl, rfl, rfl, Wf.refl I1⟩
  · rintro i av μ hi ⟨I', K, hK, hKi, rfl, rfl, hf⟩ hJ
    dsimp only [bX11_worstLoop, bX11_worstLoop_1]
    ((try rw [show (-1 : Int32) = i32 (-1) from rfl]); (try rw [show (0 : Int32) = i32 (0) from rfl]); (try rw [show (1 : Int32) = i32 (1) from rfl]); (try simp only [i32_add, i32_sub, i32_mul, i32_neg]))
    obtain ⟨k, hKk, hk, hL, hki, gap, hk1⟩ := lk_at hG hi hKi
    rw [← wst_flat hKk gap]
    have hE := (isL_E hL).1
    have hs : wst V (k + 1) = if isL V k = true ∧ (wst V k = -1 ∨ lC V (wst V k) * lC V (wst V k) * lW V k < lC V k * lC V k * lW V (wst V k)) then (k : Int) else wst V k := rfl
    have lc := lC_bd hG hE
    have lw := lW_bd hG hE
    have q1 := sq_bd lc
    refine x_ob rfl (x_cI (sp_X11_loops hG (hf.rk R1) (x_le (by omega) (by omega) (fun h => by omega) (fun _ => ?_))))
    rw [← hki]
    refine x_ob rfl (x_cI (sp_X11_misclosure hG (hf.rw' W1) (hf.rk R1) hk hL fun I2 f2 => ?_))
    dsimp only
    rw [i32_long (by omega) (by omega)]
    refine x_lJ (x_ob rfl (x_cI (sp_X11_wayOf hG ((hf.trans f2).rw' W1) ((hf.trans f2).rk R1) hk hL fun I3 f3 => ?_)))
    dsimp only
    rw [i32_long (by omega) (by omega), i64_mul]
    have f4 := (hf.trans f2).trans f3
    have lkk : lkI V k = lk V k := by unfold lkI; rw [if_neg (by omega), Int.toNat_natCast]
    have take_ : (wst V k = -1 ∨ lC V (wst V k) * lC V (wst V k) * lW V k < lC V k * lC V k * lW V (wst V k)) → fx bX11_worstLoop 1 [.ref 200, .int (i32 (lk V k)), .long (i64 (lC V k * lC V k)), .long (i64 (lW V k)), .int (i32 ((lk V k : Int) + 1))] (ME e I3 J) Q := fun h => by
      rw [if_pos ⟨hL, h⟩] at hs
      refine hJ _ _ ⟨I3, k + 1, by omega, hk1, ?_, rfl, f4⟩
      rw [hs, if_neg (by omega), if_neg (by omega), lkk, ← hki]
      simp only [Int.cast_ofNat_Int, Int.natCast_add, Int.toNat_natCast, i32_add, i32_sub, i32_mul, i32_neg, i32_lit, i64_add, i64_sub, i64_mul, i64_neg, i64_lit, i64_int, Int.natCast_one]
    rcases wst_ok V k with hw | ⟨j, hj, hwj, hLj⟩
    · rw [hw, if_pos rfl, if_pos rfl]
      exact x_eq (by show (-2147483648 : Int) ≤ -1 ∧ (-1 : Int) < 2147483648; omega) (by omega) (fun _ => x_lJ (take_ (Or.inl hw))) (fun h => absurd (show lkI V (-1) = -1 from rfl) h)
    · have hne : wst V k ≠ -1 := by omega
      have hEj := (isL_E hLj).1
      have lc2 := lC_bd hG hEj
      have lw2 := lW_bd hG hEj
      have q2 := sq_bd lc2
      have lkj : lkI V (wst V k) = lk V j := by unfold lkI; rw [if_neg hne, hwj, Int.toNat_natCast]
      have j40 := lk_40 hG (k := j) (by omega) hLj
      rw [if_neg hne, if_neg hne, lkj]
      rw [hwj] at take_ hs ⊢
      have p1 := mul_bd (a := lC V k * lC V k) (b := lW V j) (A := 620136 * 620136) (B := 1199988) (by omega) (by omega)
      have p2 := mul_bd (a := lC V j * lC V j) (b := lW V k) (A := 620136 * 620136) (B := 1199988) (by omega) (by omega)
      refine x_eq (by omega) (by omega) (fun h => by omega) (fun _ => ?_)
      rw [i64_mul, i64_mul]
      refine x_lcgt (by omega) (by omega) (fun h => x_lJ (take_ (Or.inr h))) (fun h => ?_)
      rw [if_neg (fun q => q.2.elim (fun z => by omega) (fun z => by omega))] at hs
      refine hJ _ _ ⟨I3, k + 1, by omega, hk1, ?_, rfl, f4⟩
      rw [hs, if_neg (by omega), if_neg (by omega), show lkI V j = lk V j by unfold lkI; rw [if_neg (by omega), Int.toNat_natCast], ← hki]
      simp only [Int.cast_ofNat_Int, Int.natCast_add, Int.toNat_natCast, i32_add, i32_sub, i32_mul, i32_neg, i32_lit, i64_add, i64_sub, i64_mul, i64_neg, i64_lit, i64_int, Int.natCast_one]
  · rintro av μ ⟨I', K, hK, hKi, rfl, rfl, hf⟩
    dsimp only [bX11_worstLoop, bX11_worstLoop_1]
    have hq := hQ I' (r1.trans hf.rfr)
    rw [wst_flat hK (lk_gap hKi.symm)] at hq
    exact x_ob rfl (x_cI (sp_X11_loops hG (hf.rk R1) (x_le (by omega) (by omega) (fun _ => x_rI hq) (fun h => by omega))))
theorem rq_suspect (h : Rn I V H) : Rq0 SX11_suspect [.ref 200] e I J (sus V (vS V 3) 144).1 := by
  intro Q hQ
  obtain ⟨hG, hGH, hB, hW, hH⟩ := h
  refine x_in (Nat.le_of_ble_eq_true rfl) ?_
  dsimp only [bX11_suspect, bX11_suspect_0]
  ((try rw [show (0 : Int32) = i32 (0) from rfl]); (try rw [show (-1 : Int32) = i32 (-1) from rfl]); (try simp only [i32_add, i32_sub, i32_mul, i32_neg]))
  have n40 := nL40 hG
  have nn := ncl_nL V (vS V 3)
  refine x_pI rfl ?_
  rw [show ((0 : Nat) : Int) = 0 from rfl]
  refine x_ob rfl (x_cV (sp_X11_reckons hG (Rfr.told.rw' hW) fun I1 f1 f1b R1 => ?_))
  have r1 := Rfr.told.trans (rkf0 f1 f1b).1
  have W1 := r1.rw' hW
  have se := su_eq V (vS V 3) 144
  have sl := sus_low V (vS V 3) 144
  refine x_ob rfl (x_cI (sp_X11_closing hG W1 R1 fun I2 f2 => x_ob rfl (x_cI (sp_X11_loops hG (f2.rk R1) ?_))))
  refine x_eq (by omega) (by omega) (fun h => ?_) (fun h => ?_)
  · have hz := low_none (V := V) (lim := vS V 3) (by omega)
    have : (sus V (vS V 3) 144).1 = -1 := by
      have key : ∀ K : Nat, sus V (vS V 3) K = (-1, 0, 0) := by
        intro K
        induction K with
        | zero => rfl
        | succ K ih =>
          simp only [sus]
          rw [if_neg]
          · exact ih
          · rw [ih, hz]
            rintro ⟨_, q | q⟩ <;> (dsimp only at q; omega)
      rw [key]
    have hq := hQ I2 (r1.trans f2.rfr)
    rw [this] at hq
    exact x_rI hq
  · obtain ⟨k0, hk0, hE0, hl0⟩ := low_some (V := V) (lim := vS V 3) hG (by omega)
    have s0 := sl.2 k0 hk0 hE0
    have heq : sus V (vS V 3) 144 = suR V (vS V 3) 144 := by
      rcases se with ⟨q1, q2⟩ | ⟨q1, _⟩
      · rw [q1] at s0; dsimp only at s0; omega
      · exact q1
    rw [heq] at hQ
    have rg : ∀ K : Nat, K ≤ 144 → (-1 ≤ (suR V (vS V 3) K).1 ∧ (suR V (vS V 3) K).1 < 144) ∧ (0 ≤ (suR V (vS V 3) K).2.1 ∧ (suR V (vS V 3) K).2.1 ≤ 144) ∧ (-144 ≤ (suR V (vS V 3) K).2.2 ∧ (suR V (vS V 3) K).2.2 ≤ 144) := by
      intro K
      induction K with
      | zero => intro _; simp [suR]
      | succ K ih =>
        intro hK
        have := ih (by omega)
        have l1 : low V (vS V 3) K 144 ≤ 144 := lwo_le (V := V) (vS V 3) K 1 144 |> fun q => by unfold lwo at q; rw [if_neg (by decide)] at q; exact q
        have l2 : lwc V K 144 ≤ 144 := lwo_le (V := V) (vS V 3) K 0 144 |> fun q => by unfold lwo at q; rw [if_pos rfl] at q; exact q
        simp only [suR]
        split
        · dsimp only; omega
        · exact this
    refine x_for 144 (fun i av μ => ∃ I' : IM, av = [.ref 200, .int (i32 (suR V (vS V 3) i).1), .int (i32 (suR V (vS V 3) i).2.1), .int (i32 (suR V (vS V 3) i).2.2), .int (i32 i)] ∧ μ = ME e I' J ∧ Wf I1 I') ?_ ?_ (Nat.zero_le _) ⟨I2, rfl, rfl, f2⟩
    · rintro k av μ hk ⟨I', rfl, rfl, hf⟩ hJ
      dsimp only [bX11_suspect, bX11_suspect_1]
      ((try rw [show (144 : Int32) = i32 (144) from rfl]); (try rw [show (0 : Int32) = i32 (0) from rfl]); (try rw [show (1 : Int32) = i32 (1) from rfl]); (try rw [show (-1 : Int32) = i32 (-1) from rfl]); (try simp only [i32_add, i32_sub, i32_mul, i32_neg]))
      have hs : suR V (vS V 3) (k + 1) = if isE V k = true ∧ ((suR V (vS V 3) k).1 = -1 ∨ ((suR V (vS V 3) k).2.1 < low V (vS V 3) k 144 ∨ (low V (vS V 3) k 144 = (suR V (vS V 3) k).2.1 ∧ (lwc V k 144 : Int) - low V (vS V 3) k 144 < (suR V (vS V 3) k).2.2))) then
        ((k : Int), (low V (vS V 3) k 144 : Int), (lwc V k 144 : Int) - low V (vS V 3) k 144) else suR V (vS V 3) k := rfl
      have rk := rg k (by omega)
      have l1 : low V (vS V 3) k 144 ≤ 144 := lwo_le (V := V) (vS V 3) k 1 144 |> fun q => by unfold lwo at q; rw [if_neg (by decide)] at q; exact q
      have l2 : lwc V k 144 ≤ 144 := lwo_le (V := V) (vS V 3) k 0 144 |> fun q => by unfold lwo at q; rw [if_pos rfl] at q; exact q
      have cr := cnt_rg V k
      have n := hG.2.1
      refine x_le (by omega) (by omega) (fun h => by omega) (fun _ => ?_)
      refine x_gR rfl rfl (x_aI rfl (by omega) (by omega) (by omega) ?_)
      rw [(hf.rk R1).1.2.1 k (by omega) (by omega)]
      have stay : ∀ I3 : IM, Wf I1 I3 → ¬ (isE V k = true ∧ ((suR V (vS V 3) k).1 = -1 ∨ ((suR V (vS V 3) k).2.1 < low V (vS V 3) k 144 ∨ (low V (vS V 3) k 144 = (suR V (vS V 3) k).2.1 ∧ (lwc V k 144 : Int) - low V (vS V 3) k 144 < (suR V (vS V 3) k).2.2)))) → fx bX11_suspect 1 [.ref 200, .int (i32 (suR V (vS V 3) k).1), .int (i32 (suR V (vS V 3) k).2.1), .int (i32 (suR V (vS V 3) k).2.2), .int (i32 ((k : Int) + 1))] (ME e I3 J) Q := fun I3 f3 h => by
        rw [if_neg h] at hs
        exact hJ _ _ ⟨I3, by rw [hs]; simp only [Int.cast_ofNat_Int, Int.natCast_add, Int.toNat_natCast, i32_add, i32_sub, i32_mul, i32_neg, i32_lit, i64_add, i64_sub, i64_mul, i64_neg, i64_lit, i64_int], rfl, f3⟩
      have move : ∀ I3 : IM, Wf I1 I3 → (isE V k = true ∧ ((suR V (vS V 3) k).1 = -1 ∨ ((suR V (vS V 3) k).2.1 < low V (vS V 3) k 144 ∨ (low V (vS V 3) k 144 = (suR V (vS V 3) k).2.1 ∧ (lwc V k 144 : Int) - low V (vS V 3) k 144 < (suR V (vS V 3) k).2.2)))) → fx bX11_suspect 2 [.ref 200, .int (i32 k), .int (i32 (low V (vS V 3) k 144 : Nat)), .int (i32 ((lwc V k 144 : Int) - low V (vS V 3) k 144))] (ME e I3 J) Q := fun I3 f3 h => by
        rw [if_pos h] at hs
        refine fx_in ?_
        dsimp only [bX11_suspect, bX11_suspect_2]
        rw [show (1 : Int32) = i32 1 from rfl, i32_add]
        exact hJ _ _ ⟨I3, by rw [hs]; simp only [Int.cast_ofNat_Int, Int.natCast_add, Int.toNat_natCast, i32_add, i32_sub, i32_mul, i32_neg, i32_lit, i64_add, i64_sub, i64_mul, i64_neg, i64_lit, i64_int], rfl, f3⟩
      refine x_eq (by omega) (by omega) (fun h0 => stay I' hf (fun q => by have := isE_iff.mp q.1; omega)) (fun h0 => ?_)
      have hE : isE V k = true := isE_iff.mpr (by omega)
      refine x_ob rfl (x_cI (sp_X11_loopsWith hG (hf.rw' W1) (hf.rk R1) (by omega) (Or.inr rfl) fun I3 f3 => ?_))
      have f4 := hf.trans f3
      refine x_ob rfl (x_cI (sp_X11_loopsWith hG (f4.rw' W1) (f4.rk R1) (by omega) (Or.inl rfl) fun I5 f5 => ?_))
      have f6 := f4.trans f5
      dsimp only
      rw [show lwo V (vS V 3) k 1 144 = low V (vS V 3) k 144 by unfold lwo; rw [if_neg (by decide)], show lwo V (vS V 3) k 0 144 = lwc V k 144 by unfold lwo; rw [if_pos rfl], i32_sub]
      refine x_lI (x_eq (by omega) (by omega) (fun h1 => ?_) (fun h1 => ?_))
      · exact move I5 f6 ⟨hE, Or.inl h1⟩
      · refine x_lt (by omega) (by omega) (fun h2 => stay I5 f6 (fun q => by omega)) (fun h2 => ?_)
        refine x_eq (by omega) (by omega) (fun h3 => ?_) (fun h3 => move I5 f6 ⟨hE, by omega⟩)
        exact x_lt (by omega) (by omega) (fun h4 => move I5 f6 ⟨hE, by omega⟩) (fun h4 => stay I5 f6 (fun q => by omega))
    · rintro av μ ⟨I', rfl, rfl, hf⟩
      dsimp only [bX11_suspect, bX11_suspect_1]
      ((try rw [show (144 : Int32) = i32 (144) from rfl]); (try simp only [i32_add, i32_sub, i32_mul, i32_neg]))
      exact x_le (by omega) (by omega) (fun _ => x_rI (hQ I' (r1.trans hf.rfr))) (fun h => by omega)
theorem rq_outlier (h : Rn I V H) : Rq0 SX11_outlier [.ref 200] e I J (oul V (vn V)).1 := by
  intro Q hQ
  obtain ⟨hG, hGH, hB, hW, hH⟩ := h
  refine x_in (Nat.le_of_ble_eq_true rfl) ?_
  dsimp only [bX11_outlier, bX11_outlier_0]
  ((try rw [show (0 : Int32) = i32 (0) from rfl]); (try rw [show (-1 : Int32) = i32 (-1) from rfl]); (try simp only [i32_add, i32_sub, i32_mul, i32_neg]))
  have m := hG.1
  have n := hG.2.1
  refine x_pI rfl ?_
  rw [show ((0 : Nat) : Int) = 0 from rfl]
  refine x_ob rfl (x_cV (sp_X11_reckons hG (Rfr.told.rw' hW) fun I1 f1 f1b R1 => ?_))
  have r1 := Rfr.told.trans (rkf0 f1 f1b).1
  have W1 := r1.rw' hW
  dsimp only
  refine x_for (vn V) (fun i av μ => av = [.ref 200, .int (i32 (oul V i).1), .int (i32 (oul V i).2), .int (i32 i)] ∧ μ = ME e I1 J) ?_ ?_ (Nat.zero_le _) ⟨rfl, rfl⟩
  · rintro i av μ hi ⟨rfl, rfl⟩ hJ
    dsimp only [bX11_outlier, bX11_outlier_1]
    ((try rw [show (0 : Int32) = i32 (0) from rfl]); (try rw [show (1 : Int32) = i32 (1) from rfl]); (try rw [show (3 : Int32) = i32 (3) from rfl]); (try simp only [i32_add, i32_sub, i32_mul, i32_neg]))
    have hs : oul V (i + 1) = if vG V 5 i = 0 ∧ 3 ≤ cnt V (pr V i) ∧ (oul V i).2 < oud V i then ((i : Int), oud V i) else oul V i := rfl
    have stay : ¬ (vG V 5 i = 0 ∧ 3 ≤ cnt V (pr V i) ∧ (oul V i).2 < oud V i) → fx bX11_outlier 1 [.ref 200, .int (i32 (oul V i).1), .int (i32 (oul V i).2), .int (i32 ((i : Int) + 1))] (ME e I1 J) Q := fun h => by
      rw [if_neg h] at hs
      exact hJ _ _ ⟨by rw [hs]; simp only [Int.cast_ofNat_Int, Int.natCast_add, Int.toNat_natCast, i32_add, i32_sub, i32_mul, i32_neg, i32_lit, i64_add, i64_sub, i64_mul, i64_neg, i64_lit, i64_int], rfl⟩
    have ob := oul_bd hG i (by omega)
    have gp := gd_pr hG (s := (i : Int)) (by omega) (by omega)
    have gs := gd_s hG (s := (i : Int)) (by omega) (by omega)
    have cr := cnt_rg V (pr V i)
    have sv := W_sv hG W1 (s := (i : Int)) (by omega) (by omega)
    refine x_ob rfl (x_cI (sp_X11_sights W1 (x_le (by omega) (by omega) (fun h => by omega) (fun _ => ?_))))
    refine x_ob rfl (x_cI (sp_X11_counts hG W1 (by omega) (by omega) ?_))
    by_cases h5 : vG V 5 i = 0
    · rw [if_pos h5]
      refine x_eq (by omega) (by omega) (fun h => by omega) (fun _ => ?_)
      refine x_gR rfl rfl (x_ob rfl (x_cI (sp_X11_pairOfSight hG W1 (by omega) (by omega) (x_aI rfl gp.1 gp.2.1 (by omega) ?_))))
      rw [R1.1.2.1 _ gp.1 gp.2.1]
      refine x_le (by omega) (by omega) (fun h3 => ?_) (fun h3 => stay (fun q => by omega))
      have hE : isE V (pr V i) = true := isE_iff.mpr (by omega)
      have od := gd_oud hG (i := (i : Int)) (by omega) (by omega) h5 hE
      have gr := gd_rs hG (s := (i : Int)) (by omega) (by omega)
      have ma : mark12 (vG V 0 i) := ⟨by omega, by omega⟩
      have mb : mark12 (vG V 1 i) := ⟨by omega, by omega⟩
      have fb := rf_bd hG (a := vG V 0 i) (b := vG V 1 i) ma mb hE
      refine x_ob rfl (x_cI (sp_X11_riseOf hG W1 R1.1.1 (by omega) (by omega) ?_))
      refine x_ob rfl (x_cI (sp_X11_ofSight (by omega) (by omega) (by omega) (by omega) ?_))
      refine x_ob rfl (x_cI (sp_X11_ofSight (by omega) (by omega) (by omega) (by omega) ?_))
      dsimp only
      rw [sv.1, sv.2.1]
      refine x_ob rfl (x_cI (sp_X11_riseFrom R1.1 (by omega) (by omega) gs.2.2.1 hE ?_))
      dsimp only
      rw [i32_sub]
      refine x_cI (sp_J9_abs_0f7a4 (by omega) ?_)
      have oe : (if rs V i - rf V (vG V 0 i) (vG V 1 i) < 0 then -(rs V i - rf V (vG V 0 i) (vG V 1 i)) else rs V i - rf V (vG V 0 i) (vG V 1 i)) = oud V i := by
        unfold oud absI
        rw [rf_rfk V ma mb gs.2.2.1]
        rfl
      rw [oe]
      refine x_lt (by omega) (by omega) (fun h => ?_) (fun h => stay (fun q => by omega))
      rw [if_pos ⟨h5, h3, h⟩] at hs
      exact hJ _ _ ⟨by rw [hs]; simp only [Int.cast_ofNat_Int, Int.natCast_add, Int.toNat_natCast, i32_add, i32_sub, i32_mul, i32_neg, i32_lit, i64_add, i64_sub, i64_mul, i64_neg, i64_lit, i64_int], rfl⟩
    · rw [if_neg h5]
      exact x_brr (by trivial) (stay (fun q => h5 q.1))
  · rintro av μ ⟨rfl, rfl⟩
    dsimp only [bX11_outlier, bX11_outlier_1]
    exact x_ob rfl (x_cI (sp_X11_sights W1 (x_le (by omega) (by omega) (fun _ => x_rI (hQ I1 r1)) (fun h => by omega))))
theorem rq_misfit (h : Rn I V H) (Q : Post) (hQ : ∀ I' : IM, Rfr I I' → Q (.inl (some (.long (i64 (misf V H))))) (ME e I' J)) : SX11_misfit [.ref 200] (ME e I J) Q := by
  obtain ⟨hG, hGH, hB, hW, hH⟩ := h
  refine x_in (Nat.le_of_ble_eq_true rfl) ?_
  dsimp only [bX11_misfit, bX11_misfit_0]
  ((try rw [show (0 : Int32) = i32 (0) from rfl]); (try simp only [i32_add, i32_sub, i32_mul, i32_neg]))
  refine x_pI rfl ?_
  rw [show ((0 : Nat) : Int) = 0 from rfl]
  exact x_ob rfl (x_cJ (sp_X11_misfitNow hG (Rfr.told.rw' hW) hGH (Rfr.told.rh hH) (hB.mono (by omega)) fun I1 f1 f1b R1 => x_rJ (hQ I1 (Rfr.told.trans (rkf0 f1 f1b).1))))
theorem rq_tension (h : Rn I V H) (ha : IR a) : Rqa SX11_tension [.ref 200, .int (i32 a)] e I J (an_ten V H a) c1 := by
  intro Q hQ
  obtain ⟨hG, hGH, hB, hW, hH⟩ := h
  have m := hG.1
  refine x_in (Nat.le_of_ble_eq_true rfl) ?_
  dsimp only [bX11_tension, bX11_tension_0]
  ((try rw [show (0 : Int32) = i32 (0) from rfl]); (try rw [show (-10000000 : Int32) = i32 (-10000000) from rfl]); (try simp only [i32_add, i32_sub, i32_mul, i32_neg]))
  unfold an_ten at hQ
  refine x_ob rfl (x_cI (sp_X11_isMark hG hW ha (x_ob rfl (x_cI (sp_X11_is (by split <;> simp) ?_)))))
  dsimp only
  by_cases h1 : 0 ≤ a ∧ a ≤ (vm V : Int) - 1
  · rw [if_pos h1]
    rw [if_pos (by omega)] at hQ
    refine x_eq (by omega) (by omega) (fun h => by omega) (fun _ => ?_)
    refine x_ob rfl (x_cV (sp_X11_reckons hG (Rfr.told.rw' hW) fun I2 f2 f2b R2 => ?_))
    have r2 := rkf0 f2 f2b
    have r3 := Rfr.told.trans r2.1
    have W2 := r3.rw' hW
    have H2 := r3.rh hH
    have hq := hQ I2 _ r3 ⟨rfl, by rw [r2.2]; exact up_self⟩
    have gh := (hGH a h1.1 (by omega)).2.1
    refine x_ob rfl (x_cI (sp_X11_hasHeight m hGH H2 (by omega) (x_eq (by omega) (by omega) (fun h => ?_) (fun h => ?_))))
    · rw [if_neg (by omega)] at hq; exact x_rI hq
    · rw [if_pos (by omega)] at hq
      exact x_ob rfl (x_cI (sp_X11_tensionOf hG W2 R2.1 hGH H2 (hB.mono (by omega)) (by omega) (by omega) (x_rI hq)))
  · rw [if_neg h1]
    rw [if_neg (by omega)] at hQ
    exact x_brr (by trivial) (x_rI (hQ _ 0 Rfr.told up_self))
theorem rq_tensest (h : Rn I V H) : Rq0 SX11_tensest [.ref 200] e I J (tns V H (vm V)).1 := by
  intro Q hQ
  obtain ⟨hG, hGH, hB, hW, hH⟩ := h
  have m := hG.1
  refine x_in (Nat.le_of_ble_eq_true rfl) ?_
  dsimp only [bX11_tensest, bX11_tensest_0]
  ((try rw [show (0 : Int32) = i32 (0) from rfl]); (try rw [show (-1 : Int32) = i32 (-1) from rfl]); (try simp only [i32_add, i32_sub, i32_mul, i32_neg]))
  refine x_pI rfl ?_
  rw [show ((0 : Nat) : Int) = 0 from rfl]
  refine x_ob rfl (x_cV (sp_X11_reckons hG (Rfr.told.rw' hW) fun I1 f1 f1b R1 => ?_))
  have r1 := Rfr.told.trans (rkf0 f1 f1b).1
  have W1 := r1.rw' hW
  have H1 := r1.rh hH
  have hB1 : HB (vm V) H 1000000000 := hB.mono (by omega)
  dsimp only
  refine x_for (vm V) (fun i av μ => av = [.ref 200, .int (i32 (tns V H i).1), .int (i32 (tns V H i).2), .int (i32 i)] ∧ μ = ME e I1 J) ?_ ?_ (Nat.zero_le _) ⟨rfl, rfl⟩
  · rintro k av μ hk ⟨rfl, rfl⟩ hJ
    dsimp only [bX11_tensest, bX11_tensest_1]
    ((try rw [show (0 : Int32) = i32 (0) from rfl]); (try rw [show (1 : Int32) = i32 (1) from rfl]); (try simp only [i32_add, i32_sub, i32_mul, i32_neg]))
    have tb := tns_bd hG hGH hB1 k (by omega)
    have hs : tns V H (k + 1) = if hh H k = 1 ∧ (tns V H k).2 < ten V H k 144 then ((k : Int), ten V H k 144) else tns V H k := rfl
    have gh := (hGH k (by omega) (by omega)).2.1
    refine x_ob rfl (x_cI (sp_X11_marks W1 (x_le (by omega) (by omega) (fun h => by omega) (fun _ => ?_))))
    refine x_ob rfl (x_cI (sp_X11_hasHeight m hGH H1 (by omega) (x_eq (by omega) (by omega) (fun h => ?_) (fun h => ?_))))
    · rw [if_neg (fun q => by omega)] at hs
      exact x_lt (by omega) (by omega) (fun h => by omega) (fun _ => hJ _ _ ⟨by rw [hs]; simp only [Int.cast_ofNat_Int, Int.natCast_add, Int.toNat_natCast, i32_add, i32_sub, i32_mul, i32_neg, i32_lit, i64_add, i64_sub, i64_mul, i64_neg, i64_lit, i64_int], rfl⟩)
    · have tb2 := ten_bd hG (M := 1000000000) (by omega) hB1 (b := (k : Int)) (by omega) (by omega) 144 (by omega)
      refine x_ob rfl (x_cI (sp_X11_tensionOf hG W1 R1.1 hGH H1 hB1 (by omega) (by omega) ?_))
      refine x_lt (by omega) (by omega) (fun h => ?_) (fun h => ?_)
      · rw [if_pos ⟨by omega, h⟩] at hs
        exact hJ _ _ ⟨by rw [hs]; simp only [Int.cast_ofNat_Int, Int.natCast_add, Int.toNat_natCast, i32_add, i32_sub, i32_mul, i32_neg, i32_lit, i64_add, i64_sub, i64_mul, i64_neg, i64_lit, i64_int], rfl⟩
      · rw [if_neg (fun q => by omega)] at hs
        exact hJ _ _ ⟨by rw [hs]; simp only [Int.cast_ofNat_Int, Int.natCast_add, Int.toNat_natCast, i32_add, i32_sub, i32_mul, i32_neg, i32_lit, i64_add, i64_sub, i64_mul, i64_neg, i64_lit, i64_int], rfl⟩
  · rintro av μ ⟨rfl, rfl⟩
    dsimp only [bX11_tensest, bX11_tensest_1]
    exact x_ob rfl (x_cI (sp_X11_marks W1 (x_le (by omega) (by omega) (fun _ => x_rI (hQ I1 r1)) (fun h => by omega))))
theorem rq_neighbour (h : Rn I V H) (ha : IR a) (hb : IR b) : Rqa SX11_neighbour [.ref 200, .int (i32 a), .int (i32 b)] e I J (an_nb V a b) c1 := by
  intro Q hQ
  obtain ⟨hG, hGH, hB, hW, hH⟩ := h
  have m := hG.1
  refine x_in (Nat.le_of_ble_eq_true rfl) ?_
  dsimp only [bX11_neighbour, bX11_neighbour_0]
  ((try rw [show (0 : Int32) = i32 (0) from rfl]); (try simp only [i32_add, i32_sub, i32_mul, i32_neg]))
  unfold an_nb at hQ
  refine x_ob rfl (x_cI (sp_X11_isMark hG hW ha (x_ob rfl (x_cI (sp_X11_is (by split <;> simp) ?_)))))
  dsimp only
  by_cases h1 : 0 ≤ a ∧ a ≤ (vm V : Int) - 1
  · rw [if_pos h1]
    rw [if_pos (by omega)] at hQ
    refine x_eq (by omega) (by omega) (fun h => by omega) (fun _ => ?_)
    refine x_ob rfl (x_cV (sp_X11_reckons hG (Rfr.told.rw' hW) fun I2 f2 f2b R2 => ?_))
    have r2 := rkf0 f2 f2b
    have r3 := Rfr.told.trans r2.1
    have W2 := r3.rw' hW
    have hq := hQ I2 _ r3 ⟨rfl, by rw [r2.2]; exact up_self⟩
    unfold IR at hb
    dsimp only
    refine x_for (vm V) (fun i av μ => av = [.ref 200, .int (i32 a), .int (i32 (b - ct (adj V a) i)), .int (i32 i)] ∧ μ = ME e I2 J ∧ nb V a b i = -1 ∧ (0 ≤ b → (ct (adj V a) i : Int) ≤ b) ∧ (b < 0 → ct (adj V a) i = 0)) ?_ ?_ (Nat.zero_le _) ⟨by simp [ct], rfl, rfl, fun h => by simpa [ct] using h, fun _ => rfl⟩
    · rintro k av μ hk ⟨rfl, rfl, hn, hc, hz⟩ hJ
      dsimp only [bX11_neighbour, bX11_neighbour_1]
      ((try rw [show (0 : Int32) = i32 (0) from rfl]); (try rw [show (1 : Int32) = i32 (1) from rfl]); (try rw [show (-1 : Int32) = i32 (-1) from rfl]); (try simp only [i32_add, i32_sub, i32_mul, i32_neg]))
      have cl := ct_le (adj V a) k
      have cs : ct (adj V a) (k + 1) = ct (adj V a) k + (if adj V a k = true then 1 else 0) := rfl
      have hs : nb V a b (k + 1) = if nb V a b k ≠ -1 then nb V a b k else if adj V a k = true ∧ (ct (adj V a) k : Int) = b then (k : Int) else -1 := rfl
      rw [if_neg (by omega)] at hs
      refine x_ob rfl (x_cI (sp_X11_marks W2 (x_le (by omega) (by omega) (fun h => by omega) (fun _ => ?_))))
      refine x_lt (by omega) (by omega) (fun hlt => ?_) (fun hge => ?_)
      · have hb0 : b < 0 := by omega
        have : nb V a b (vm V) = -1 := by
          have key : ∀ K : Nat, nb V a b K = -1 := by
            intro K
            induction K with
            | zero => rfl
            | succ K ih =>
              simp only [nb]
              rw [if_neg (by omega), if_neg (fun q => by omega)]
          exact key _
        rw [this] at hq
        exact x_rI hq
      · refine x_ob rfl (x_cI (sp_X11_isEdge hG R2.1 (by omega) (by omega) ?_))
        by_cases he : a ≠ (k : Int) ∧ isE V (pq a k) = true
        · rw [if_pos he]
          have ha2 := adj_iff.mpr he
          rw [if_pos ha2] at cs
          refine x_eq (by omega) (by omega) (fun h => by omega) (fun _ => ?_)
          refine x_eq (by omega) (by omega) (fun h => ?_) (fun h => x_lI ?_)
          · rw [if_pos ⟨ha2, by omega⟩] at hs
            rw [nb_keep (K := k + 1) (by rw [hs]; omega) (vm V) (by omega), hs] at hq
            exact x_rI hq
          · rw [if_neg (fun q => h (by omega))] at hs
            exact hJ _ _ ⟨by rw [cs, show b - ((ct (adj V a) k + 1 : Nat) : Int) = b - (ct (adj V a) k : Int) - 1 by omega]; simp only [Int.cast_ofNat_Int, Int.natCast_add, Int.toNat_natCast, i32_add, i32_sub, i32_mul, i32_neg, i32_lit, i64_add, i64_sub, i64_mul, i64_neg, i64_lit, i64_int], rfl, hs, fun q => by omega, fun q => by omega⟩
        · rw [if_neg he]
          have ha2 : ¬ adj V a k = true := fun q => he (adj_iff.mp q)
          rw [if_neg ha2] at cs
          rw [if_neg (fun q => ha2 q.1)] at hs
          exact x_brr (by trivial) (hJ _ _ ⟨by rw [cs, Nat.add_zero]; simp only [Int.cast_ofNat_Int, Int.natCast_add, Int.toNat_natCast, i32_add, i32_sub, i32_mul, i32_neg, i32_lit, i64_add, i64_sub, i64_mul, i64_neg, i64_lit, i64_int], rfl, hs, fun q => by omega, fun q => by omega⟩)
    · rintro av μ ⟨rfl, rfl, hn, hc, hz⟩
      dsimp only [bX11_neighbour, bX11_neighbour_1]
      ((try rw [show (-1 : Int32) = i32 (-1) from rfl]); (try simp only [i32_add, i32_sub, i32_mul, i32_neg]))
      rw [hn] at hq
      exact x_ob rfl (x_cI (sp_X11_marks W2 (x_le (by omega) (by omega) (fun _ => x_rI hq) (fun h => by omega))))
  · rw [if_neg h1]
    rw [if_neg (by omega)] at hQ
    exact x_brr (by trivial) (x_rI (hQ _ 0 Rfr.told up_self))
theorem rq_loopsOf (h : Rn I V H) (ha : IR a) : Rqa SX11_loopsOf [.ref 200, .int (i32 a)] e I J (an_lo V a) c1 := by
  intro Q hQ
  obtain ⟨hG, hGH, hB, hW, hH⟩ := h
  have m := hG.1
  refine x_in (Nat.le_of_ble_eq_true rfl) ?_
  dsimp only [bX11_loopsOf, bX11_loopsOf_0]
  ((try rw [show (0 : Int32) = i32 (0) from rfl]); (try simp only [i32_add, i32_sub, i32_mul, i32_neg]))
  unfold an_lo at hQ
  have n40 := nL40 hG
  refine x_ob rfl (x_cI (sp_X11_isMark hG hW ha (x_ob rfl (x_cI (sp_X11_is (by split <;> simp) ?_)))))
  dsimp only
  by_cases h1 : 0 ≤ a ∧ a ≤ (vm V : Int) - 1
  · rw [if_pos h1]
    rw [if_pos (by omega)] at hQ
    refine x_eq (by omega) (by omega) (fun h => by omega) (fun _ => ?_)
    refine x_ob rfl (x_cV (sp_X11_reckons hG (Rfr.told.rw' hW) fun I2 f2 f2b R2 => ?_))
    have r2 := rkf0 f2 f2b
    have r3 := Rfr.told.trans r2.1
    have W2 := r3.rw' hW
    dsimp only
    refine x_for (nL V) (fun i av μ => ∃ (I' : IM) (K : Nat), K ≤ 144 ∧ lk V K = i ∧ av = [.ref 200, .int (i32 a), .int (i32 (lth V a K)), .int (i32 i)] ∧ μ = ME e I' J ∧ Wf I2 I') ?_ ?_ (Nat.zero_le _) ⟨I2, 0, by omega, rfl, rfl, rfl, Wf.refl I2⟩
    · rintro i av μ hi ⟨I', K, hK, hKi, rfl, rfl, hf⟩ hJ
      dsimp only [bX11_loopsOf, bX11_loopsOf_1]
      ((try rw [show (0 : Int32) = i32 (0) from rfl]); (try rw [show (1 : Int32) = i32 (1) from rfl]); (try simp only [i32_add, i32_sub, i32_mul, i32_neg]))
      obtain ⟨k, hKk, hk, hL, hki, gap, hk1⟩ := lk_at hG hi hKi
      rw [← lth_flat hKk gap]
      have hs : lth V a (k + 1) = lth V a k + cM V k a (lD V k + 1) := by
        show lth V a k + (if isL V k = true then cM V k a (lD V k + 1) else 0) = _
        rw [if_pos hL]
      refine x_ob rfl (x_cI (sp_X11_loops hG (hf.rk R2) (x_le (by omega) (by omega) (fun h => by omega) (fun _ => ?_))))
      rw [← hki]
      refine x_ob rfl (x_cI (sp_X11_hasMark hG (hf.rw' W2) (hf.rk R2) hk hL (by omega) fun I3 f3 => ?_))
      dsimp only
      rcases cM_vals hG (isL_E hL).1 a with hv | hv
      · rw [hv]
        rw [hv] at hs
        exact x_brr (by trivial) (hJ _ _ ⟨I3, k + 1, by omega, hk1, by rw [hs, ← hki]; simp only [Int.cast_ofNat_Int, Int.natCast_add, Int.toNat_natCast, i32_add, i32_sub, i32_mul, i32_neg, i32_lit, i64_add, i64_sub, i64_mul, i64_neg, i64_lit, i64_int, Int.add_zero, Int.natCast_one], rfl, hf.trans f3⟩)
      · rw [hv]
        rw [hv] at hs
        exact x_eq (by omega) (by omega) (fun h => by omega) (fun _ => x_lI (hJ _ _ ⟨I3, k + 1, by omega, hk1, by rw [hs, ← hki]; simp only [Int.cast_ofNat_Int, Int.natCast_add, Int.toNat_natCast, i32_add, i32_sub, i32_mul, i32_neg, i32_lit, i64_add, i64_sub, i64_mul, i64_neg, i64_lit, i64_int, Int.natCast_one], rfl, hf.trans f3⟩))
    · rintro av μ ⟨I', K, hK, hKi, rfl, rfl, hf⟩
      dsimp only [bX11_loopsOf, bX11_loopsOf_1]
      have hq := hQ I' _ (r3.trans hf.rfr) ⟨rfl, by rw [hf.rf0.2, r2.2]; exact up_self⟩
      rw [lth_flat hK (lk_gap hKi.symm)] at hq
      exact x_ob rfl (x_cI (sp_X11_loops hG (hf.rk R2) (x_le (by omega) (by omega) (fun _ => x_rI hq) (fun h => by omega))))
  · rw [if_neg h1]
    rw [if_neg (by omega)] at hQ
    exact x_brr (by trivial) (x_rI (hQ _ 0 Rfr.told up_self))
theorem rq_bridges (h : Rn I V H) : Rq0 SX11_bridges [.ref 200] e I J (brg V 144 : Nat) := by
  intro Q hQ
  obtain ⟨hG, hGH, hB, hW, hH⟩ := h
  refine x_in (Nat.le_of_ble_eq_true rfl) ?_
  dsimp only [bX11_bridges, bX11_bridges_0]
  ((try rw [show (0 : Int32) = i32 (0) from rfl]); (try simp only [i32_add, i32_sub, i32_mul, i32_neg]))
  refine x_pI rfl ?_
  rw [show ((0 : Nat) : Int) = 0 from rfl]
  refine x_ob rfl (x_cV (sp_X11_reckons hG (Rfr.told.rw' hW) fun I1 f1 f1b R1 => ?_))
  have r1 := Rfr.told.trans (rkf0 f1 f1b).1
  have W1 := r1.rw' hW
  dsimp only
  refine x_for 144 (fun i av μ => ∃ I' : IM, av = [.ref 200, .int (i32 (brg V i : Nat)), .int (i32 i)] ∧ μ = ME e I' J ∧ Wf I1 I') ?_ ?_ (Nat.zero_le _) ⟨I1, by simp [brg, ct], rfl, Wf.refl I1⟩
  · rintro k av μ hk ⟨I', rfl, rfl, hf⟩ hJ
    dsimp only [bX11_bridges, bX11_bridges_1]
    ((try rw [show (144 : Int32) = i32 (144) from rfl]); (try rw [show (0 : Int32) = i32 (0) from rfl]); (try rw [show (1 : Int32) = i32 (1) from rfl]); (try simp only [i32_add, i32_sub, i32_mul, i32_neg]))
    have bs : brg V (k + 1) = brg V k + (if (isE V k && decide (lwc V k 144 = 0)) = true then 1 else 0) := rfl
    have cr := cnt_rg V k
    have n := hG.2.1
    have l2 : lwc V k 144 ≤ 144 := lwo_le (V := V) (vS V 3) k 0 144 |> fun q => by unfold lwo at q; rw [if_pos rfl] at q; exact q
    have stay : ∀ I3 : IM, Wf I1 I3 → ¬ (isE V k = true ∧ lwc V k 144 = 0) → fx bX11_bridges 1 [.ref 200, .int (i32 (brg V k : Nat)), .int (i32 ((k : Int) + 1))] (ME e I3 J) Q := fun I3 f3 h => by
      rw [if_neg (by simp only [Bool.and_eq_true, decide_eq_true_eq]; exact h), Nat.add_zero] at bs
      exact hJ _ _ ⟨I3, by rw [bs]; simp only [Nat.add_zero, Int.cast_ofNat_Int, Int.natCast_add, Int.toNat_natCast, i32_add, i32_sub, i32_mul, i32_neg, i32_lit, i64_add, i64_sub, i64_mul, i64_neg, i64_lit, i64_int], rfl, f3⟩
    refine x_le (by omega) (by omega) (fun h => by omega) (fun _ => ?_)
    refine x_gR rfl rfl (x_aI rfl (by omega) (by omega) (by omega) ?_)
    rw [(hf.rk R1).1.2.1 k (by omega) (by omega)]
    refine x_le (by omega) (by omega) (fun h0 => stay I' hf (fun q => by have := isE_iff.mp q.1; omega)) (fun h0 => ?_)
    have hE : isE V k = true := isE_iff.mpr h0
    refine x_ob rfl (x_cI (sp_X11_loopsWith hG (hf.rw' W1) (hf.rk R1) (by omega) (Or.inl rfl) fun I3 f3 => ?_))
    dsimp only
    rw [show lwo V (vS V 3) k 0 144 = lwc V k 144 by unfold lwo; rw [if_pos rfl]]
    refine x_eq (by omega) (by omega) (fun h => x_lI ?_) (fun h => stay I3 (hf.trans f3) (fun q => by omega))
    rw [if_pos (by simp only [Bool.and_eq_true, decide_eq_true_eq]; exact ⟨hE, by omega⟩)] at bs
    exact hJ _ _ ⟨I3, by rw [bs]; simp only [Int.cast_ofNat_Int, Int.natCast_add, Int.toNat_natCast, i32_add, i32_sub, i32_mul, i32_neg, i32_lit, i64_add, i64_sub, i64_mul, i64_neg, i64_lit, i64_int, Int.natCast_one], rfl, hf.trans f3⟩
  · rintro av μ ⟨I', rfl, rfl, hf⟩
    dsimp only [bX11_bridges, bX11_bridges_1]
    ((try rw [show (144 : Int32) = i32 (144) from rfl]); (try simp only [i32_add, i32_sub, i32_mul, i32_neg]))
    exact x_le (by omega) (by omega) (fun _ => x_rI (hQ I' (r1.trans hf.rfr))) (fun h => by omega)
end Law93
