/-! ===== the class is asked: marks, sights, edges ===== -/
section Law87
variable {e : Nat} {I J : IM} {Q : Post} {V : Vw} {H : Hw} {a b v s w : Int}
theorem Sf.st {I' : IM} {q : Nat} (h : Sf I I') (hq : q + 11 ≤ 171) (hR : Rst I q V) : Rst I' q V := hR.keep fun d hd => h.1 _ (by omega)
theorem Sf.ht {I' : IM} {q : Nat} (h : Sf I I') (hq : q + 11 ≤ 171) (hR : Rht I q H) : Rht I' q H := hR.keep fun d hd => h.1 _ (by omega)
theorem Sf.wl {I' : IM} (h : Sf I I') (hR : Rwl I 5 V) : Rwl I' 5 V := hR.keep fun d hd => h.1 _ (by omega)
theorem cq_mark (h : Cn I V H) (he : e ∈ stLs) (ha : IR a) (hw : IR w) : Cq SX10_mark [.ref 0, .int (i32 a), .int (i32 w)] e I J (an_mark V H a w) := by
  intro Q hQ
  obtain ⟨hG, hGH, hB, hR, hH, hW, hd⟩ := h
  have m := hG.1
  refine x_in (Nat.le_of_ble_eq_true rfl) ?_
  dsimp only [bX10_mark, bX10_mark_0]
  ((try rw [show (0 : Int32) = i32 (0) from rfl]); (try simp only [i32_add, i32_sub, i32_mul, i32_neg]))
  unfold an_mark at hQ
  refine x_ob rfl (x_cV (sp_X10_needMark m hW ha (fun h1 h2 => ?_) (fun h1 => ?_)))
  rotate_left
  · have hq := hQ I e (Cf.refl hd) he
    rw [if_neg (by omega)] at hq; exact hq
  rw [if_pos ⟨h1, h2⟩] at hQ
  refine x_gR rfl rfl (x_ob rfl (x_cV (sp_X10_survey st8 hG hR hW hd fun I1 f1 M1 G1 L1 => ?_)))
  have hq := hQ I1 8 f1.cf st8
  have R1 := f1.st (by omega) hR
  have H1 := f1.ht (by omega) hH
  have W1 := f1.wl hW
  refine x_sw hw (by omega) (fun k hk hak => ?_) (fun h => ?_)
  · rw [if_pos (by omega)] at hq
    obtain rfl : w = (k : Int) := by omega
    rcases (show k = 0 ∨ k = 1 ∨ k = 2 ∨ k = 3 ∨ k = 4 by omega) with rfl | rfl | rfl | rfl | rfl
    · refine x_gR rfl rfl (x_gR rfl rfl (x_cI (sp_X10_cell (n := 12) rfl h1 (by omega) (by omega) (by omega) ?_)))
      dsimp only
      rw [show I1 7 a = vK V 0 a from W1.2.2 a h1 h2]
      exact x_rI hq
    · refine x_gR rfl rfl (x_gR rfl rfl (x_cI (sp_X10_cell (n := 12) rfl h1 (by omega) (by omega) (by omega) ?_)))
      dsimp only
      rw [show I1 10 a = hb H a from (H1 a h1 (by omega)).1]
      exact x_rI hq
    · exact x_gR rfl rfl (x_ob rfl (x_cI (sp_X0_edgesAt hG M1 (by omega) (x_rI hq))))
    · exact x_gR rfl rfl (x_obs st8 (x_cI (sp_X6_sightsAt st8 st8 hG R1 (by omega) (by omega) (x_rI hq))))
    · refine x_gR rfl rfl (x_gR rfl rfl (x_cI (sp_X10_cell (n := 12) rfl h1 (by omega) (by omega) (by omega) ?_)))
      dsimp only
      rw [show I1 188 a = fP (forest V) a from G1.1.1 a ⟨h1, by omega⟩]
      exact x_rI hq
  · rw [if_neg (by omega)] at hq
    exact x_thr hq
theorem cq_sight (h : Cn I V H) (he : e ∈ stLs) (ha : IR s) (hw : IR w) : Cq SX10_sight [.ref 0, .int (i32 s), .int (i32 w)] e I J (an_sight V s w) := by
  intro Q hQ
  obtain ⟨hG, hGH, hB, hR, hH, hW, hd⟩ := h
  have m := hG.2.1
  refine x_in (Nat.le_of_ble_eq_true rfl) ?_
  dsimp only [bX10_sight, bX10_sight_0]
  ((try rw [show (0 : Int32) = i32 (0) from rfl]); (try simp only [i32_add, i32_sub, i32_mul, i32_neg]))
  unfold an_sight at hQ
  refine x_ob rfl (x_cV (sp_X10_needSight m hR ha (fun h1 h2 => ?_) (fun h1 => ?_)))
  rotate_left
  · have hq := hQ I e (Cf.refl hd) he
    rw [if_neg (by omega)] at hq; exact hq
  rw [if_pos ⟨h1, h2⟩] at hQ
  refine x_gR rfl rfl (x_gR rfl rfl (x_ob rfl (x_cV (sp_X0_measure st8 hG hR hW fun I1 f1 M1 => ?_))))
  have hq := hQ I1 8 (f1.cf hd) st8
  have R1 := f1.st st8 hR
  refine x_sw hw (by omega) (fun k hk hak => ?_) (fun h => ?_)
  · rw [if_pos (by omega)] at hq
    obtain rfl : w = (k : Int) := by omega
    rcases (show k = 0 ∨ k = 1 ∨ k = 2 ∨ k = 3 ∨ k = 4 ∨ k = 5 ∨ k = 6 ∨ k = 7 ∨ k = 8 ∨ k = 9 by omega) with rfl | rfl | rfl | rfl | rfl | rfl | rfl | rfl | rfl | rfl
    · refine x_gR rfl rfl (x_gRs st8 rfl (x_cI (sp_X10_cell (n := 40) rfl h1 (by omega) (by omega) (by omega) ?_)))
      dsimp only
      rw [R_s0 R1 h1 h2]
      exact x_rI hq
    · refine x_gR rfl rfl (x_gRs st8 rfl (x_cI (sp_X10_cell (n := 40) rfl h1 (by omega) (by omega) (by omega) ?_)))
      dsimp only
      rw [R_s1 R1 h1 h2]
      exact x_rI hq
    · refine x_gR rfl rfl (x_gRs st8 rfl (x_cI (sp_X10_cell (n := 40) rfl h1 (by omega) (by omega) (by omega) ?_)))
      dsimp only
      rw [R_s2 R1 h1 h2]
      exact x_rI hq
    · refine x_gR rfl rfl (x_gRs st8 rfl (x_cI (sp_X10_cell (n := 40) rfl h1 (by omega) (by omega) (by omega) ?_)))
      dsimp only
      rw [R_s3 R1 h1 h2]
      exact x_rI hq
    · refine x_gR rfl rfl (x_gRs st8 rfl (x_cI (sp_X10_cell (n := 40) rfl h1 (by omega) (by omega) (by omega) ?_)))
      dsimp only
      rw [R_s4 R1 h1 h2]
      exact x_rI hq
    · refine x_gR rfl rfl (x_gRs st8 rfl (x_cI (sp_X10_cell (n := 40) rfl h1 (by omega) (by omega) (by omega) ?_)))
      dsimp only
      rw [R_s5 R1 h1 h2]
      exact x_rI hq
    · exact x_gR rfl rfl (x_ob rfl (x_cI (sp_X0_swingsOf st8 hG R1 h1 h2 (M1.1 s h1 h2).1 (x_rI hq))))
    · exact x_gR rfl rfl (x_ob rfl (x_cI (sp_X0_bendOf st8 hG R1 h1 h2 (M1.1 s h1 h2).1 (x_rI hq))))
    · exact x_gR rfl rfl (x_ob rfl (x_cI (sp_X0_warmthOf st8 hG R1 h1 h2 (M1.1 s h1 h2).1 (x_rI hq))))
    · exact x_gR rfl rfl (x_ob rfl (x_cI (sp_X0_sightRise hG M1.1 M1.2.1 h1 h2 (x_rI hq))))
  · rw [if_neg (by omega)] at hq
    exact x_thr hq
/-- the edge between two marks, in the class's row -/
theorem Md.bet {a b : Int} (hM : Md I V) (hG : Good V) (h1 : 0 ≤ a ∧ a < vm V) (h2 : 0 ≤ b ∧ b < vm V) :
    ((if a = b then (-1 : Int) else I 175 (pq a b)) = -1 ∧ adj V a b = false) ∨ (∃ k : Nat, k < 144 ∧ pq a b = k ∧ isE V k = true ∧ a ≠ b ∧ adj V a b = true ∧ (if a = b then (-1 : Int) else I 175 (pq a b)) = rk V k ∧ rk V k < 40) := by
  have m := hG.1
  by_cases hab : a = b
  · left
    rw [if_pos hab]
    refine ⟨rfl, ?_⟩
    unfold adj
    simp [hab]
  · rw [if_neg hab]
    have pg := pq_rg (m := 12) (a := a) (b := b) (by omega) (by omega) (by omega) hab
    obtain ⟨k, hk⟩ : ∃ k : Nat, pq a b = k := ⟨(pq a b).toNat, by omega⟩
    rw [hk] at pg ⊢
    rw [hM.2.2.2.2 k (by omega)]
    unfold adj
    by_cases hE : isE V k = true
    · right
      rw [if_pos hE]
      exact ⟨k, by omega, rfl, hE, hab, by rw [hk, hE]; simp [hab], rfl, rk_lt40 hG (by omega) hE⟩
    · left
      rw [if_neg hE]
      refine ⟨rfl, ?_⟩
      rw [hk]
      simp only [Bool.not_eq_true] at hE
      rw [hE, Bool.and_false]
theorem cq_rise (h : Cn I V H) (he : e ∈ stLs) (ha : IR a) (hb : IR b) : Cq SX10_rise [.ref 0, .int (i32 a), .int (i32 b)] e I J (an_rise V a b) := by
  intro Q hQ
  obtain ⟨hG, hGH, hB, hR, hH, hW, hd⟩ := h
  have m := hG.1
  refine x_in (Nat.le_of_ble_eq_true rfl) ?_
  dsimp only [bX10_rise, bX10_rise_0]
  ((try rw [show (-1 : Int32) = i32 (-1) from rfl]); (try rw [show (-10000000 : Int32) = i32 (-10000000) from rfl]); (try simp only [i32_add, i32_sub, i32_mul, i32_neg]))
  unfold an_rise at hQ
  have hbad : areM V a b = 0 → Q (.inr 1) (ME e I J) := fun h => by
    have hq := hQ I e (Cf.refl hd) he
    rw [if_neg (by omega)] at hq; exact hq
  refine x_ob rfl (x_cV (sp_X10_needMark m hW ha (fun h1 h2 => ?_) (fun h1 => hbad (areM_0 (by omega)))))
  refine x_ob rfl (x_cV (sp_X10_needMark m hW hb (fun h3 h4 => ?_) (fun h1 => hbad (areM_0 (by omega)))))
  rw [if_pos (areM_1 h1 h2 h3 h4)] at hQ
  refine x_gR rfl rfl (x_gR rfl rfl (x_ob rfl (x_cV (sp_X0_measure st8 hG hR hW fun I1 f1 M1 => x_gR rfl rfl (x_ob rfl ?_)))))
  refine x_cI (sp_X0_between (k := 0) (by omega) (by omega) ?_)
  have hq := hQ I1 8 (f1.cf hd) st8
  dsimp only
  rcases M1.bet hG ⟨h1, h2⟩ ⟨h3, h4⟩ with ⟨h5, h6⟩ | ⟨k, hk, hp, hE, hab, h6, h5, h7⟩
  · rw [h5]
    rw [h6] at hq
    exact x_brr (by trivial) (x_rI hq)
  · rw [h5]
    rw [h6, if_pos rfl] at hq
    refine x_eq (by omega) (by omega) (fun h => by omega) (fun _ => ?_)
    have ab := isE_ab hG (by omega) (by omega) hE
    have hor : a = (k : Int) / 12 ∨ a = (k : Int) % 12 := by
      rw [← hp]; unfold pq; split <;> omega
    refine x_gR rfl rfl (x_ob rfl (x_cI (sp_X0_riseFrom hG M1 hk hE hor ?_)))
    rw [rf_rfk V ⟨h1, by omega⟩ ⟨h3, by omega⟩ hab, hp] at hq
    exact x_rI hq
theorem cq_edge (h : Cn I V H) (he : e ∈ stLs) (ha : IR a) (hb : IR b) (hw : IR w) : Cq SX10_edge [.ref 0, .int (i32 a), .int (i32 b), .int (i32 w)] e I J (an_edge V a b w) := by
  intro Q hQ
  obtain ⟨hG, hGH, hB, hR, hH, hW, hd⟩ := h
  have m := hG.1
  refine x_in (Nat.le_of_ble_eq_true rfl) ?_
  dsimp only [bX10_edge, bX10_edge_0]
  ((try rw [show (-1 : Int32) = i32 (-1) from rfl]); (try rw [show (0 : Int32) = i32 (0) from rfl]); (try rw [show (6 : Int32) = i32 (6) from rfl]); (try simp only [i32_add, i32_sub, i32_mul, i32_neg]))
  unfold an_edge at hQ
  have hbad : areM V a b = 0 → Q (.inr 1) (ME e I J) := fun h => by
    have hq := hQ I e (Cf.refl hd) he
    rw [if_neg (by omega)] at hq; exact hq
  refine x_ob rfl (x_cV (sp_X10_needMark m hW ha (fun h1 h2 => ?_) (fun h1 => hbad (areM_0 (by omega)))))
  refine x_ob rfl (x_cV (sp_X10_needMark m hW hb (fun h3 h4 => ?_) (fun h1 => hbad (areM_0 (by omega)))))
  rw [if_pos (areM_1 h1 h2 h3 h4)] at hQ
  refine x_cV (sp_X10_needRange hw (by omega) (by omega) (fun w1 w2 => ?_) (fun w1 => ?_))
  rotate_left
  · have hq := hQ I e (Cf.refl hd) he
    rw [if_neg (by omega)] at hq; exact hq
  rw [if_pos (by omega)] at hQ
  refine x_gR rfl rfl (x_ob rfl (x_cV (sp_X10_survey st8 hG hR hW hd fun I1 f1 M1 G1 L1 => x_gR rfl rfl (x_ob rfl ?_))))
  refine x_cI (sp_X0_between (k := 0) (by omega) (by omega) ?_)
  have hq := hQ I1 8 f1.cf st8
  have R1 := f1.st (by omega) hR
  dsimp only
  rcases M1.bet hG ⟨h1, h2⟩ ⟨h3, h4⟩ with ⟨h5, h6⟩ | ⟨k, hk, hp, hE, hab, h6, h5, h7⟩
  · rw [h5]
    rw [h6] at hq
    exact x_brr (by trivial) (x_rI hq)
  · rw [h5]
    rw [h6, if_pos rfl, hp] at hq
    have t := M1.2.2.2.1 k hk hE
    refine x_eq (by omega) (by omega) (fun h => by omega) (fun _ => ?_)
    refine x_sw hw (by omega) (fun j hj haj => ?_) (fun h => ?_)
    · obtain rfl : w = (j : Int) := by omega
      rcases (show j = 0 ∨ j = 1 ∨ j = 2 ∨ j = 3 ∨ j = 4 ∨ j = 5 by omega) with rfl | rfl | rfl | rfl | rfl | rfl
      · refine x_gR rfl rfl (x_gR rfl rfl (x_cI (sp_X10_cell (n := 40) rfl (by omega) (by omega) (by omega) (by omega) ?_)))
        dsimp only
        rw [t.2.2.2.1]
        exact x_rI hq
      · refine x_gR rfl rfl (x_gR rfl rfl (x_cI (sp_X10_cell (n := 40) rfl (by omega) (by omega) (by omega) (by omega) ?_)))
        dsimp only
        rw [t.2.2.1]
        exact x_rI hq
      · exact x_gR rfl rfl (x_ob rfl (x_cI (sp_X0_weightOf hG M1 hk hE (x_rI hq))))
      · refine x_gR rfl rfl (x_gR rfl rfl (x_cI (sp_X10_cell (n := 40) rfl (by omega) (by omega) (by omega) (by omega) ?_)))
        dsimp only
        have g := G1.2.2 k (by omega) (by omega) hE
        rw [rkI_nat] at g
        rw [g]
        exact x_rI hq
      · refine x_gR rfl rfl (x_gR rfl rfl (x_cI (sp_X10_cell (n := 40) rfl (by omega) (by omega) (by omega) (by omega) ?_)))
        dsimp only
        have g := (L1.2.2.2 k (by omega) (by omega) hE).1
        rw [rkI_nat] at g
        rw [g]
        exact x_rI hq
      · refine x_gR rfl rfl (x_gR rfl rfl (x_cI (sp_X10_cell (n := 40) rfl (by omega) (by omega) (by omega) (by omega) ?_)))
        dsimp only
        have g := (L1.2.2.2 k (by omega) (by omega) hE).2
        rw [rkI_nat] at g
        rw [g]
        exact x_rI hq
    · obtain rfl : w = 6 := by omega
      exact x_gR rfl rfl (x_ob rfl (x_cI (sp_X0_spreadOf2 st8 hG R1 M1 hk hE (x_rI hq))))
theorem cq_along (h : Cn I V H) (he : e ∈ stLs) (ha : IR a) (hb : IR b) : Cq SX10_along [.ref 0, .int (i32 a), .int (i32 b)] e I J (an_along V a b) := by
  intro Q hQ
  obtain ⟨hG, hGH, hB, hR, hH, hW, hd⟩ := h
  have m := hG.1
  refine x_in (Nat.le_of_ble_eq_true rfl) ?_
  dsimp only [bX10_along, bX10_along_0]
  ((try rw [show (0 : Int32) = i32 (0) from rfl]); (try rw [show (-10000000 : Int32) = i32 (-10000000) from rfl]); (try simp only [i32_add, i32_sub, i32_mul, i32_neg]))
  unfold an_along at hQ
  have hbad : areM V a b = 0 → Q (.inr 1) (ME e I J) := fun h => by
    have hq := hQ I e (Cf.refl hd) he
    rw [if_neg (by omega)] at hq; exact hq
  refine x_ob rfl (x_cV (sp_X10_needMark m hW ha (fun h1 h2 => ?_) (fun h1 => hbad (areM_0 (by omega)))))
  refine x_ob rfl (x_cV (sp_X10_needMark m hW hb (fun h3 h4 => ?_) (fun h1 => hbad (areM_0 (by omega)))))
  rw [if_pos (areM_1 h1 h2 h3 h4)] at hQ
  refine x_gR rfl rfl (x_ob rfl (x_cV (sp_X10_survey st8 hG hR hW hd fun I1 f1 M1 G1 L1 => x_gR rfl rfl (x_ob rfl ?_))))
  have ma : mark12 a := ⟨h1, by omega⟩
  have mb : mark12 b := ⟨h3, by omega⟩
  have hq := hQ I1 8 f1.cf st8
  have T := fd_TI hG
  refine x_cI (sp_X1_joined ma mb (fun x hx => by rw [G1.1.1 x hx]; exact (T.1 x hx).2.2) ?_)
  dsimp only
  rw [G1.1.1 a ma, G1.1.1 b mb]
  by_cases hj : fP (forest V) a = fP (forest V) b
  · rw [if_pos hj] at hq ⊢
    refine x_eq (by omega) (by omega) (fun h => by omega) (fun _ => ?_)
    refine x_gR rfl rfl (x_ob rfl (x_cI (sp_X1_climbOf ma mb ?_)))
    rw [G1.1.2.1 a b ma mb hj]
    exact x_rI hq
  · rw [if_neg hj] at hq ⊢
    exact x_brr (by trivial) (x_rI hq)
theorem cq_count (h : Cn I V H) {hdd n : Nat} {L : Nat → Vw × Hw} (hI : HI I hdd n L) (hw : IR w) : Cq SX10_count [.ref 0, .int (i32 w)] e I J (.inl (an_count V H n w)) := by
  intro Q hQ
  obtain ⟨hG, hGH, hB, hR, hH, hW, hd⟩ := h
  have m := hG.1
  refine x_in (Nat.le_of_ble_eq_true rfl) ?_
  dsimp only [bX10_count, bX10_count_0]
  ((try rw [show (0 : Int32) = i32 (0) from rfl]); (try rw [show (-1 : Int32) = i32 (-1) from rfl]); (try simp only [i32_add, i32_sub, i32_mul, i32_neg]))
  unfold an_count at hQ
  refine x_gR rfl rfl (x_ob rfl (x_cV (sp_X10_survey st8 hG hR hW hd fun I1 f1 M1 G1 L1 => ?_)))
  have hq := hQ I1 8 f1.cf st8
  have R1 := f1.st (by omega) hR
  have H1 := f1.ht (by omega) hH
  have W1 := f1.wl hW
  have far : ∀ k : Int, vm V ≤ k → k < 12 → hb H k = 0 ∧ hh H k = 0 := fun k a b => (hGH k (by omega) b).2.2.2 a
  refine x_sw hw (by omega) (fun k hk hak => ?_) (fun h => ?_)
  · rw [if_pos (by omega)] at hq
    obtain rfl : w = (k : Int) := by omega
    rcases (show k = 0 ∨ k = 1 ∨ k = 2 ∨ k = 3 ∨ k = 4 ∨ k = 5 ∨ k = 6 ∨ k = 7 ∨ k = 8 ∨ k = 9 ∨ k = 10 by omega) with rfl | rfl | rfl | rfl | rfl | rfl | rfl | rfl | rfl | rfl | rfl
    · refine x_gR rfl rfl (x_gI rfl ?_)
      rw [show I1 5 ((0 : Nat) : Int) = ((vm V : Nat) : Int) from W1.1]
      exact x_rI hq
    · refine x_gR rfl rfl (x_obs st8 (x_cI (sp_X6_benches st8 hGH H1 ?_)))
      rw [ctH_m m (fun k a b => (far k a b).1)]
      exact x_rI hq
    · refine x_gR rfl rfl (x_gIs st8 ?_)
      rw [show I1 8 ((6 : Nat) : Int) = ((vn V : Nat) : Int) from R_n R1]
      exact x_rI hq
    · exact x_gR rfl rfl (x_obs st8 (x_cI (sp_X6_struckSights st8 hG R1 (x_rI hq))))
    · refine x_gR rfl rfl (x_gI rfl ?_)
      rw [show I1 171 ((3 : Nat) : Int) = ((nE V : Nat) : Int) from M1.2.2.1]
      exact x_rI hq
    · refine x_gR rfl rfl (x_gI rfl ?_)
      rw [show I1 185 ((1 : Nat) : Int) = ((ct (fT (forest V)) 144 : Nat) : Int) from G1.2.1]
      exact x_rI hq
    · refine x_gR rfl rfl (x_gI rfl ?_)
      rw [show I1 191 ((2 : Nat) : Int) = ((nL V : Nat) : Int) from L1.1]
      exact x_rI hq
    · refine x_gR rfl rfl (x_gI rfl ?_)
      rw [show I1 191 ((3 : Nat) : Int) = ((ncl V (vS V 3) 144 : Nat) : Int) from L1.2.1]
      exact x_rI hq
    · refine x_gR rfl rfl (x_obs st8 (x_cI (sp_X6_markedHeights st8 hGH H1 ?_)))
      rw [ctH_m m (fun k a b => (far k a b).2)]
      exact x_rI hq
    · refine x_gR rfl rfl (x_gI rfl ?_)
      rw [show I1 41 ((1 : Nat) : Int) = ((n : Nat) : Int) by rw [f1.1 41 (by omega)]; exact hI.1]
      exact x_rI hq
    · refine x_gR rfl rfl (x_gI rfl ?_)
      rw [show I1 5 ((0 : Nat) : Int) = ((vm V : Nat) : Int) from W1.1]
      refine x_gR rfl rfl (x_gI rfl ?_)
      rw [show I1 185 ((1 : Nat) : Int) = ((ct (fT (forest V)) 144 : Nat) : Int) from G1.2.1, i32_sub]
      exact x_rI hq
  · rw [if_neg (by omega)] at hq
    exact x_rI hq
end Law87
