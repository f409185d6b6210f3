/-! ===== the reference is asked ===== -/
def Rf0 (I I' : IM) : Prop := Rfr I I' ∧ I' 200 0 = I 200 0
theorem Rf0.refl (I : IM) : Rf0 I I := ⟨Rfr.refl I, rfl⟩
theorem Rf0.trans {I I' I2 : IM} (h : Rf0 I I') (h2 : Rf0 I' I2) : Rf0 I I2 := ⟨h.1.trans h2.1, by rw [h2.2, h.2]⟩
theorem Wf.rf0 {I I' : IM} (h : Wf I I') : Rf0 I I' := ⟨h.rfr, h.2 0 (by omega)⟩
theorem rkf0 {I I' : IM} (h1 : ∀ q, q < 207 ∨ 212 < q → q ≠ 200 → I' q = I q) (h2 : ∀ k, k ≠ 10 → I' 200 k = I 200 k) : Rf0 I I' := ⟨rkf h1 h2, h2 0 (by omega)⟩
theorem f207 {I I' : IM} (h : ∀ q, q ≠ 207 → I' q = I q) : Rf0 I I' := ⟨⟨fun q a => h q (by omega), fun k a => by rw [h 200 (by omega)]⟩, by rw [h 200 (by omega)]⟩
/-- what the reference's answer and word must be -/
def okr (r : An) (f : Nat → Int) (c v : Int) : Prop := match r with
  | .inl w => v = w ∧ c = 0
  | .inr k => c = f k
def Rqa (S : ST) (as : List Value) (e : Nat) (I J : IM) (r : An) (f : Nat → Int) : Prop := ∀ Q : Post, (∀ (I' : IM) (v : Int), Rfr I I' → okr r f (I' 200 0) v → Q (.inl (some (.int (i32 v)))) (ME e I' J)) → S as (ME e I J) Q
def RqaJ (S : ST) (as : List Value) (e : Nat) (I J : IM) (r : An) (f : Nat → Int) : Prop := ∀ Q : Post, (∀ (I' : IM) (v : Int), Rfr I I' → okr r f (I' 200 0) v → Q (.inl (some (.long (i64 v)))) (ME e I' J)) → S as (ME e I J) Q
theorem Rn.rfr {I I' : IM} {V : Vw} {H : Hw} (h : Rn I V H) (f : Rfr I I') : Rn I' V H := by
  obtain ⟨hG, hGH, hB, hW, hH⟩ := h
  exact ⟨hG, hGH, hB, f.rw' hW, f.rh hH⟩
def c1 (_ : Nat) : Int := 1
def c12 (k : Nat) : Int := k
def c13 (k : Nat) : Int := if k = 1 then 1 else 2
section Law91
variable {e : Nat} {I J : IM} {Q : Post} {V : Vw} {H : Hw} {a b v s w l x : Int}
theorem rq_setting (h : Rn I V H) (hw : IR w) : Rq0 SX11_setting [.ref 200, .int (i32 w)] e I J (an_set V w) := by
  intro Q hQ
  obtain ⟨hG, hGH, hB, hW, hH⟩ := h.rfr (Rfr.told (v := 0))
  refine x_in (Nat.le_of_ble_eq_true rfl) ?_
  dsimp only [bX11_setting, bX11_setting_0]
  ((try rw [show (0 : Int32) = i32 (0) from rfl]); (try rw [show (-1 : Int32) = i32 (-1) from rfl]); (try rw [show (2 : Int32) = i32 (2) from rfl]); (try simp only [i32_add, i32_sub, i32_mul, i32_neg]))
  have hq := hQ _ (Rfr.told (v := 0))
  unfold an_set at hq
  refine x_pI rfl ?_
  rw [show ((0 : Nat) : Int) = 0 from rfl, i32_long hw.1 hw.2, show (0 : Int64) = i64 0 from rfl, show (4 : Int64) = i64 4 from rfl]
  unfold IR at hw
  refine x_cI (sp_X11_isIn (by omega) (by omega) (by omega) ?_)
  by_cases h1 : 0 ≤ w ∧ w ≤ 4
  · rw [if_pos h1]
    rw [if_pos (by omega)] at hq
    refine x_eq (by omega) (by omega) (fun h => by omega) (fun _ => x_gR rfl rfl (x_aI rfl (by omega) (by omega) (by omega) ?_))
    rw [W_S hW h1.1 (by omega)]
    exact x_rI hq
  · rw [if_neg h1]
    rw [if_neg (by omega)] at hq
    exact x_brr (by trivial) (x_rI hq)
theorem rq_levelError (h : Rn I V H) : Rq0 SX11_levelError [.ref 200] e I J (err V) := by
  intro Q hQ
  obtain ⟨hG, hGH, hB, hW, hH⟩ := h.rfr (Rfr.told (v := 0))
  refine x_in (Nat.le_of_ble_eq_true rfl) ?_
  dsimp only [bX11_levelError, bX11_levelError_0]
  ((try rw [show (0 : Int32) = i32 (0) from rfl]); (try simp only [i32_add, i32_sub, i32_mul, i32_neg]))
  refine x_pI rfl (x_ob rfl (x_cI (sp_X11_errorNow hG hW fun I1 f1 => x_rI (hQ I1 (Rfr.told.trans (f207 f1).1)))))
theorem areM_or (V : Vw) (a b : Int) : areM V a b = 0 ∨ areM V a b = 1 := by unfold areM; split <;> simp
theorem areM_in {V : Vw} {a b : Int} (h : areM V a b = 1) : (0 ≤ a ∧ a < vm V) ∧ (0 ≤ b ∧ b < vm V) := by
  unfold areM at h
  split at h <;> omega
theorem rq_estimate (h : Rn I V H) (ha : IR a) (hb : IR b) : Rqa SX11_estimate [.ref 200, .int (i32 a), .int (i32 b)] e I J (an_est V a b) c1 := by
  intro Q hQ
  obtain ⟨hG, hGH, hB, hW, hH⟩ := h
  refine x_in (Nat.le_of_ble_eq_true rfl) ?_
  dsimp only [bX11_estimate, bX11_estimate_0]
  ((try rw [show (0 : Int32) = i32 (0) from rfl]); (try simp only [i32_add, i32_sub, i32_mul, i32_neg]))
  unfold an_est at hQ
  have am := areM_or V a b
  refine x_ob rfl (x_cI (sp_X11_areMarks hG hW ha hb (x_ob rfl (x_cI (sp_X11_is am ?_)))))
  dsimp only
  rcases am with h0 | h1
  · rw [h0]
    rw [if_neg (by omega)] at hQ
    exact x_brr (by trivial) (x_rI (hQ _ 0 Rfr.told up_self))
  · rw [h1]
    rw [if_pos h1] at hQ
    refine x_eq (by omega) (by omega) (fun h => by omega) (fun _ => ?_)
    have t := areM_in h1
    exact x_ob rfl (x_cI (sp_X11_estimateOf hG (Rfr.told.rw' hW) t.1 t.2 (x_rI (hQ _ _ Rfr.told ⟨rfl, up_self⟩))))
theorem rq_height (h : Rn I V H) (ha : IR a) : Rqa SX11_height [.ref 200, .int (i32 a)] e I J (an_hgt V H a) c1 := by
  intro Q hQ
  obtain ⟨hG, hGH, hB, hW, hH⟩ := h
  refine x_in (Nat.le_of_ble_eq_true rfl) ?_
  dsimp only [bX11_height, bX11_height_0]
  ((try rw [show (0 : Int32) = i32 (0) from rfl]); (try simp only [i32_add, i32_sub, i32_mul, i32_neg]))
  unfold an_hgt at hQ
  refine x_ob rfl (x_cI (sp_X11_isMark hG hW ha (x_ob rfl (x_cI (sp_X11_is (by split <;> simp) ?_)))))
  dsimp only
  by_cases h1 : 0 ≤ a ∧ a ≤ (vm V : Int) - 1
  · rw [if_pos h1]
    rw [if_pos (by omega)] at hQ
    refine x_eq (by omega) (by omega) (fun h => by omega) (fun _ => ?_)
    exact x_ob rfl (x_cI (sp_X11_heightOf hG.1 hGH (Rfr.told.rh hH) (by omega) (x_rI (hQ _ _ Rfr.told ⟨rfl, up_self⟩))))
  · rw [if_neg h1]
    rw [if_neg (by omega)] at hQ
    exact x_brr (by trivial) (x_rI (hQ _ 0 Rfr.told up_self))
theorem W_mk {k : Int} (hW : Rrw I 201 0 V) (hH : Rhr I 201 0 (vm V) H) (h0 : 0 ≤ k) (h1 : k < vm V) : I 201 (8 + 5 * k + 1) = vK V 0 k ∧ I 201 (8 + 5 * k + 2) = hb H k := ⟨W_pl hW h0 h1, W_bn hH h0 h1⟩
theorem rq_mark (h : Rn I V H) (ha : IR a) (hw : IR w) : Rqa SX11_mark [.ref 200, .int (i32 a), .int (i32 w)] e I J (an_mark V H a w) c12 := by
  intro Q hQ
  obtain ⟨hG, hGH, hB, hW, hH⟩ := h
  have m := hG.1
  refine x_in (Nat.le_of_ble_eq_true rfl) ?_
  dsimp only [bX11_mark, bX11_mark_0]
  ((try rw [show (0 : Int32) = i32 (0) from rfl]); (try rw [show (2 : Int32) = i32 (2) from rfl]); (try rw [show (1 : Int32) = i32 (1) from rfl]); (try simp only [i32_add, i32_sub, i32_mul, i32_neg]))
  unfold an_mark at hQ
  refine x_ob rfl (x_cI (sp_X11_isMark hG hW ha (x_ob rfl (x_cI (sp_X11_is (by split <;> simp) ?_)))))
  dsimp only
  by_cases h1 : 0 ≤ a ∧ a ≤ (vm V : Int) - 1
  · rw [if_pos h1]
    rw [if_pos (by omega)] at hQ
    refine x_eq (by omega) (by omega) (fun h => by omega) (fun _ => ?_)
    rw [i32_long hw.1 hw.2, show (0 : Int64) = i64 0 from rfl, show (4 : Int64) = i64 4 from rfl]
    unfold IR at hw
    refine x_cI (sp_X11_isIn (by omega) (by omega) (by omega) (x_ob rfl (x_cI (sp_X11_may (by split <;> simp) ?_))))
    dsimp only
    by_cases h2 : 0 ≤ w ∧ w ≤ 4
    · rw [if_pos h2]
      rw [if_pos (by omega)] at hQ
      refine x_eq (by omega) (by omega) (fun h => by omega) (fun _ => ?_)
      have r1 : Rfr I (up (up I 200 0 (1 - 1)) 200 0 (if (1 : Int) = 0 then 2 else 0)) := Rfr.told.trans Rfr.told
      have t1 : up (up I 200 0 (1 - 1)) 200 0 (if (1 : Int) = 0 then 2 else 0) 200 0 = 0 := up_self
      generalize up (up I 200 0 (1 - 1)) 200 0 (if (1 : Int) = 0 then 2 else 0) = I1 at *
      refine x_ob rfl (x_cV (sp_X11_reckons hG (r1.rw' hW) fun I2 f2 f2b R2 => ?_))
      have r2 := rkf0 f2 f2b
      have r3 := r1.trans r2.1
      have W2 := r3.rw' hW
      have H2 := r3.rh hH
      have t := W_mk W2 H2 h1.1 (by omega)
      have t2 : I2 200 0 = 0 := by rw [r2.2]; exact t1
      have hq := fun y hy => hQ I2 y r3 ⟨hy, t2⟩
      refine x_sw hw (by omega) (fun k hk hak => ?_) (fun h => ?_)
      · obtain rfl : w = (k : Int) := by omega
        rcases (show k = 0 ∨ k = 1 ∨ k = 2 ∨ k = 3 by omega) with rfl | rfl | rfl | rfl
        · refine x_ob rfl (x_cI (sp_X11_of h1.1 (by omega) (by omega) (by omega) ?_))
          dsimp only
          rw [t.1]
          exact x_rI (hq _ rfl)
        · refine x_ob rfl (x_cI (sp_X11_of h1.1 (by omega) (by omega) (by omega) ?_))
          dsimp only
          rw [t.2]
          exact x_rI (hq _ rfl)
        · exact x_ob rfl (x_cI (sp_X11_edgesOf hG W2 R2.1 (by omega) (x_rI (hq _ rfl))))
        · exact x_ob rfl (x_cI (sp_X11_sightsOf hG W2 (by omega) (x_rI (hq _ rfl))))
      · obtain rfl : w = 4 := by omega
        refine x_gR rfl rfl (x_aI rfl h1.1 (by omega) (by omega) ?_)
        rw [R2.2.2 a h1.1 (by omega)]
        exact x_rI (hq _ rfl)
    · rw [if_neg h2]
      rw [if_neg (by omega)] at hQ
      exact x_brr (by trivial) (x_rI (hQ _ 0 (Rfr.told.trans Rfr.told) up_self))
  · rw [if_neg h1]
    rw [if_neg (by omega)] at hQ
    exact x_brr (by trivial) (x_rI (hQ _ 0 Rfr.told up_self))
theorem rq_sight (h : Rn I V H) (ha : IR s) (hw : IR w) : Rqa SX11_sight [.ref 200, .int (i32 s), .int (i32 w)] e I J (an_sight V s w) c12 := by
  intro Q hQ
  obtain ⟨hG, hGH, hB, hW, hH⟩ := h
  have m := hG.1
  have n := hG.2.1
  refine x_in (Nat.le_of_ble_eq_true rfl) ?_
  dsimp only [bX11_sight, bX11_sight_0]
  ((try rw [show (0 : Int32) = i32 (0) from rfl]); (try rw [show (2 : Int32) = i32 (2) from rfl]); (try rw [show (1 : Int32) = i32 (1) from rfl]); (try rw [show (6 : Int32) = i32 (6) from rfl]); (try simp only [i32_add, i32_sub, i32_mul, i32_neg]))
  unfold an_sight at hQ
  refine x_ob rfl (x_cI (sp_X11_isSight hG hW ha (x_ob rfl (x_cI (sp_X11_is (by split <;> simp) ?_)))))
  dsimp only
  by_cases h1 : 0 ≤ s ∧ s ≤ (vn V : Int) - 1
  · rw [if_pos h1]
    rw [if_pos (by omega)] at hQ
    refine x_eq (by omega) (by omega) (fun h => by omega) (fun _ => ?_)
    rw [i32_long hw.1 hw.2, show (0 : Int64) = i64 0 from rfl, show (9 : Int64) = i64 9 from rfl]
    unfold IR at hw
    refine x_cI (sp_X11_isIn (by omega) (by omega) (by omega) (x_ob rfl (x_cI (sp_X11_may (by split <;> simp) ?_))))
    dsimp only
    by_cases h2 : 0 ≤ w ∧ w ≤ 9
    · rw [if_pos h2]
      rw [if_pos (by omega)] at hQ
      refine x_eq (by omega) (by omega) (fun h => by omega) (fun _ => ?_)
      have r1 : Rfr I (up (up I 200 0 (1 - 1)) 200 0 (if (1 : Int) = 0 then 2 else 0)) := Rfr.told.trans Rfr.told
      have t1 : up (up I 200 0 (1 - 1)) 200 0 (if (1 : Int) = 0 then 2 else 0) 200 0 = 0 := up_self
      generalize up (up I 200 0 (1 - 1)) 200 0 (if (1 : Int) = 0 then 2 else 0) = I1 at *
      refine x_ob rfl (x_cI (sp_X11_errorNow hG (r1.rw' hW) fun I2 f2 => ?_))
      refine x_pI rfl ?_
      rw [show ((10 : Nat) : Int) = 10 from rfl]
      have r2 : Rf0 I1 (up I2 200 10 (err V)) := (f207 f2).trans ⟨⟨fun q a => up_qf (by omega), fun k a => up_k (by omega)⟩, up_k (by omega)⟩
      have e2 : up I2 200 10 (err V) 200 10 = err V := up_self
      generalize up I2 200 10 (err V) = I3 at *
      have r3 := r1.trans r2.1
      have W3 := r3.rw' hW
      have t3 : I3 200 0 = 0 := by rw [r2.2]; exact t1
      have hq := fun y hy => hQ I3 y r3 ⟨hy, t3⟩
      have sv := W_sv hG W3 (s := s) h1.1 (by omega)
      have g := gd_s hG (s := s) h1.1 (by omega)
      refine x_sw hw (by omega) (fun k hk hak => ?_) (fun h => ?_)
      · obtain rfl : w = 6 + (k : Int) := by omega
        rcases (show k = 0 ∨ k = 1 ∨ k = 2 ∨ k = 3 by omega) with rfl | rfl | rfl | rfl
        · refine x_ob rfl (x_cI (sp_X11_ofSight h1.1 (by omega) (by omega) (by omega) ?_))
          refine x_ob rfl (x_cI (sp_X11_ofSight h1.1 (by omega) (by omega) (by omega) ?_))
          dsimp only
          rw [sv.1, sv.2.1]
          exact x_ob rfl (x_cI (sp_X11_swingsOf hG W3 g.1 g.2.1 (x_rI (hq _ rfl))))
        · exact x_ob rfl (x_cI (sp_X11_bendOf hG W3 h1.1 (by omega) (x_rI (hq _ rfl))))
        · exact x_ob rfl (x_cI (sp_X11_warmthOf hG W3 h1.1 (by omega) (x_rI (hq _ rfl))))
        · exact x_ob rfl (x_cI (sp_X11_riseOf hG W3 e2 h1.1 (by omega) (x_rI (hq _ rfl))))
      · obtain ⟨k, rfl⟩ : ∃ k : Nat, w = k := ⟨w.toNat, by omega⟩
        refine x_ob rfl (x_cI (sp_X11_ofSight h1.1 (by omega) (by omega) (by omega) ?_))
        dsimp only
        rw [W_s W3 k h1.1 (by omega) (by omega)]
        rcases (show k = 0 ∨ k = 1 ∨ k = 2 ∨ k = 3 ∨ k = 4 ∨ k = 5 by omega) with rfl | rfl | rfl | rfl | rfl | rfl
        · exact x_rI (hq _ rfl)
        · exact x_rI (hq _ rfl)
        · exact x_rI (hq _ rfl)
        · exact x_rI (hq _ rfl)
        · exact x_rI (hq _ rfl)
        · exact x_rI (hq _ rfl)
    · rw [if_neg h2]
      rw [if_neg (by omega)] at hQ
      exact x_brr (by trivial) (x_rI (hQ _ 0 (Rfr.told.trans Rfr.told) up_self))
  · rw [if_neg h1]
    rw [if_neg (by omega)] at hQ
    exact x_brr (by trivial) (x_rI (hQ _ 0 Rfr.told up_self))
theorem rq_rise (h : Rn I V H) (ha : IR a) (hb : IR b) : Rqa SX11_rise [.ref 200, .int (i32 a), .int (i32 b)] e I J (an_rise V a b) c1 := by
  intro Q hQ
  obtain ⟨hG, hGH, hB, hW, hH⟩ := h
  have m := hG.1
  refine x_in (Nat.le_of_ble_eq_true rfl) ?_
  dsimp only [bX11_rise, bX11_rise_0]
  ((try rw [show (0 : Int32) = i32 (0) from rfl]); (try rw [show (-10000000 : Int32) = i32 (-10000000) from rfl]); (try simp only [i32_add, i32_sub, i32_mul, i32_neg]))
  unfold an_rise at hQ
  have am := areM_or V a b
  refine x_ob rfl (x_cI (sp_X11_areMarks hG hW ha hb (x_ob rfl (x_cI (sp_X11_is am ?_)))))
  dsimp only
  rcases am with h0 | h1
  · rw [h0]
    rw [if_neg (by omega)] at hQ
    exact x_brr (by trivial) (x_rI (hQ _ 0 Rfr.told up_self))
  · rw [h1]
    rw [if_pos h1] at hQ
    refine x_eq (by omega) (by omega) (fun h => by omega) (fun _ => ?_)
    have t := areM_in h1
    refine x_ob rfl (x_cV (sp_X11_reckons hG (Rfr.told.rw' hW) fun I2 f2 f2b R2 => ?_))
    have r2 := rkf0 f2 f2b
    have hq := fun y hy => hQ I2 y (Rfr.told.trans r2.1) ⟨hy, by rw [r2.2]; exact up_self⟩
    refine x_ob rfl (x_cI (sp_X11_isEdge hG R2.1 (by omega) (by omega) ?_))
    by_cases he : a ≠ b ∧ isE V (pq a b) = true
    · rw [if_pos he]
      refine x_eq (by omega) (by omega) (fun h => by omega) (fun _ => ?_)
      refine x_ob rfl (x_cI (sp_X11_riseFrom R2.1 (by omega) (by omega) he.1 he.2 (x_rI (hq _ ?_))))
      rw [if_pos (adj_iff.mpr he)]
    · rw [if_neg he]
      refine x_brr (by trivial) (x_rI (hq _ ?_))
      rw [if_neg (fun q => he (adj_iff.mp q))]
theorem rq_edge (h : Rn I V H) (ha : IR a) (hb : IR b) (hw : IR w) : Rqa SX11_edge [.ref 200, .int (i32 a), .int (i32 b), .int (i32 w)] e I J (an_edge V a b w) c12 := by
  intro Q hQ
  obtain ⟨hG, hGH, hB, hW, hH⟩ := h
  have m := hG.1
  refine x_in (Nat.le_of_ble_eq_true rfl) ?_
  dsimp only [bX11_edge, bX11_edge_0]
  ((try rw [show (0 : Int32) = i32 (0) from rfl]); (try rw [show (2 : Int32) = i32 (2) from rfl]); (try rw [show (1 : Int32) = i32 (1) from rfl]); (try rw [show (-1 : Int32) = i32 (-1) from rfl]); (try simp only [i32_add, i32_sub, i32_mul, i32_neg]))
  unfold an_edge at hQ
  have am := areM_or V a b
  refine x_ob rfl (x_cI (sp_X11_areMarks hG hW ha hb (x_ob rfl (x_cI (sp_X11_is am ?_)))))
  dsimp only
  rcases am with h0 | h1
  · rw [h0]
    rw [if_neg (by omega)] at hQ
    exact x_brr (by trivial) (x_rI (hQ _ 0 Rfr.told up_self))
  rw [h1]
  rw [if_pos h1] at hQ
  refine x_eq (by omega) (by omega) (fun h => by omega) (fun _ => ?_)
  have tt := areM_in h1
  rw [i32_long hw.1 hw.2, show (0 : Int64) = i64 0 from rfl, show (6 : Int64) = i64 6 from rfl]
  unfold IR at hw
  refine x_cI (sp_X11_isIn (by omega) (by omega) (by omega) (x_ob rfl (x_cI (sp_X11_may (by split <;> simp) ?_))))
  dsimp only
  by_cases h2 : 0 ≤ w ∧ w ≤ 6
  · rw [if_pos h2]
    rw [if_pos (by omega)] at hQ
    refine x_eq (by omega) (by omega) (fun h => by omega) (fun _ => ?_)
    have r1 : Rfr I (up (up I 200 0 (1 - 1)) 200 0 (if (1 : Int) = 0 then 2 else 0)) := Rfr.told.trans Rfr.told
    have t1 : up (up I 200 0 (1 - 1)) 200 0 (if (1 : Int) = 0 then 2 else 0) 200 0 = 0 := up_self
    generalize up (up I 200 0 (1 - 1)) 200 0 (if (1 : Int) = 0 then 2 else 0) = I1 at *
    refine x_ob rfl (x_cV (sp_X11_reckons hG (r1.rw' hW) fun I2 f2 f2b R2 => ?_))
    have r2 := rkf0 f2 f2b
    have r3 := r1.trans r2.1
    have W2 := r3.rw' hW
    have t2 : I2 200 0 = 0 := by rw [r2.2]; exact t1
    refine x_ob rfl (x_cI (sp_X11_isEdge hG R2.1 (by omega) (by omega) ?_))
    by_cases he : a ≠ b ∧ isE V (pq a b) = true
    · rw [if_pos he]
      rw [if_pos (adj_iff.mpr he)] at hQ
      refine x_eq (by omega) (by omega) (fun h => by omega) (fun _ => ?_)
      have pg := pq_rg (m := 12) (a := a) (b := b) (by omega) (by omega) (by omega) he.1
      have hdk := dk_pq (V := V) (a := a) (b := b) (by omega) (by omega) he.1
      refine x_cI (sp_X11_pairOf (by omega) (by omega) ?_)
      have hq := fun y hy => hQ I2 y r3 ⟨hy, t2⟩
      have hqw := fun I3 (f3 : Wf I2 I3) y hy => hQ I3 y (r3.trans f3.rfr) ⟨hy, by rw [f3.rf0.2]; exact t2⟩
      have d2 := R2.1.2.1 (pq a b) pg.1 pg.2.1
      have d3 := R2.1.2.2 (pq a b) pg.1 pg.2.1 he.2
      have d4 := R2.2.1 (pq a b) pg.1 pg.2.1
      dsimp only
      refine x_sw hw (by omega) (fun k hk hak => ?_) (fun h => ?_)
      · obtain rfl : w = (k : Int) := by omega
        rcases (show k = 0 ∨ k = 1 ∨ k = 2 ∨ k = 3 ∨ k = 4 ∨ k = 5 by omega) with rfl | rfl | rfl | rfl | rfl | rfl
        · refine x_gR rfl rfl (x_aI rfl pg.1 pg.2.1 (by omega) ?_)
          rw [d2]
          exact x_rI (hq _ rfl)
        · exact x_ob rfl (x_cI (sp_X11_distance hG W2 tt.1 tt.2 (x_rI (hq _ hdk.symm))))
        · refine x_gR rfl rfl (x_aI rfl pg.1 pg.2.1 (by omega) ?_)
          rw [d3.2]
          exact x_rI (hq _ rfl)
        · refine x_gR rfl rfl (x_aB rfl (Or.inr rfl) pg.1 pg.2.1 (by omega) ?_)
          rw [d4]
          have hq := hq (if fT (forest V) (pq a b) = true then 1 else 0) rfl
          by_cases hT : fT (forest V) (pq a b) = true
          · rw [if_pos hT] at hq ⊢
            exact x_eq (by omega) (by omega) (fun h => by omega) (fun _ => x_rI hq)
          · rw [if_neg hT] at hq ⊢
            exact x_brr (by trivial) (x_rI hq)
        · refine x_ob rfl (x_cI (sp_X11_loopsWith hG W2 R2 ⟨pg.1, pg.2.1⟩ (Or.inl rfl) fun I3 f3 => x_rI (hqw I3 f3 _ ?_)))
          unfold lwo
          rw [if_pos rfl]
          rfl
        · refine x_ob rfl (x_cI (sp_X11_loopsWith hG W2 R2 ⟨pg.1, pg.2.1⟩ (Or.inr rfl) fun I3 f3 => x_rI (hqw I3 f3 _ ?_)))
          unfold lwo
          rw [if_neg (by decide)]
          rfl
      · obtain rfl : w = 6 := by omega
        exact x_ob rfl (x_cI (sp_X11_spreadOf hG W2 R2.1 ⟨pg.1, pg.2.1⟩ (x_rI (hq _ rfl))))
    · rw [if_neg he]
      rw [if_neg (fun q => he (adj_iff.mp q))] at hQ
      exact x_brr (by trivial) (x_rI (hQ I2 _ r3 ⟨rfl, t2⟩))
  · rw [if_neg h2]
    rw [if_neg (by omega)] at hQ
    exact x_brr (by trivial) (x_rI (hQ _ 0 (Rfr.told.trans Rfr.told) up_self))
theorem rq_along (h : Rn I V H) (ha : IR a) (hb : IR b) : Rqa SX11_along [.ref 200, .int (i32 a), .int (i32 b)] e I J (an_along V a b) c1 := by
  intro Q hQ
  obtain ⟨hG, hGH, hB, hW, hH⟩ := h
  have m := hG.1
  refine x_in (Nat.le_of_ble_eq_true rfl) ?_
  dsimp only [bX11_along, bX11_along_0]
  ((try rw [show (0 : Int32) = i32 (0) from rfl]); (try rw [show (-10000000 : Int32) = i32 (-10000000) from rfl]); (try simp only [i32_add, i32_sub, i32_mul, i32_neg]))
  unfold an_along at hQ
  have am := areM_or V a b
  refine x_ob rfl (x_cI (sp_X11_areMarks hG hW ha hb (x_ob rfl (x_cI (sp_X11_is am ?_)))))
  dsimp only
  rcases am with h0 | h1
  · rw [h0]
    rw [if_neg (by omega)] at hQ
    exact x_brr (by trivial) (x_rI (hQ _ 0 Rfr.told up_self))
  · rw [h1]
    rw [if_pos h1] at hQ
    refine x_eq (by omega) (by omega) (fun h => by omega) (fun _ => ?_)
    have t := areM_in h1
    refine x_ob rfl (x_cV (sp_X11_reckons hG (Rfr.told.rw' hW) fun I2 f2 f2b R2 => ?_))
    have r2 := rkf0 f2 f2b
    have W2 := (Rfr.told.trans r2.1).rw' hW
    refine x_ob rfl (x_cI (sp_X11_findsWay hG t.2 t.1 W2 R2 fun I3 g1 g2 => ⟨fun hj a1 a2 => ?_, fun hj a1 => ?_⟩))
    · have w3 : Wf I2 I3 := ⟨g1, g2⟩
      have hq := hQ I3 _ ((Rfr.told.trans r2.1).trans w3.rfr) ⟨rfl, by rw [w3.rf0.2, r2.2]; exact up_self⟩
      rw [if_pos (show fP (forest V) a = fP (forest V) b from hj)] at hq
      refine x_eq (by omega) (by omega) (fun h => by omega) (fun _ => ?_)
      exact x_ob rfl (x_cI (sp_X11_sumOfWay hG (w3.rk R2) ⟨by omega, by omega⟩ ⟨by omega, by omega⟩ hj ⟨a1, a2⟩ (x_rI hq)))
    · have w3 : Wf I2 I3 := ⟨g1, g2⟩
      have hq := hQ I3 _ ((Rfr.told.trans r2.1).trans w3.rfr) ⟨rfl, by rw [w3.rf0.2, r2.2]; exact up_self⟩
      rw [if_neg (show ¬ fP (forest V) a = fP (forest V) b from hj)] at hq
      exact x_brr (by trivial) (x_rI hq)
theorem rq_count (h : Rn I V H) {n : Nat} (hn : I 200 7 = n) (hw : IR w) : Rq0 SX11_count [.ref 200, .int (i32 w)] e I J (an_count V H n w) := by
  intro Q hQ
  obtain ⟨hG, hGH, hB, hW, hH⟩ := h
  refine x_in (Nat.le_of_ble_eq_true rfl) ?_
  dsimp only [bX11_count, bX11_count_0]
  ((try rw [show (0 : Int32) = i32 (0) from rfl]); (try rw [show (-1 : Int32) = i32 (-1) from rfl]); (try simp only [i32_add, i32_sub, i32_mul, i32_neg]))
  unfold an_count at hQ
  refine x_pI rfl ?_
  rw [show ((0 : Nat) : Int) = 0 from rfl]
  refine x_ob rfl (x_cV (sp_X11_reckons hG (Rfr.told.rw' hW) fun I2 f2 f2b R2 => ?_))
  have r2 := Rfr.told.trans (rkf0 f2 f2b).1
  have W2 := r2.rw' hW
  have H2 := r2.rh hH
  have hq := hQ I2 r2
  refine x_sw hw (by omega) (fun k hk hak => ?_) (fun h => ?_)
  · rw [if_pos (by omega)] at hq
    obtain rfl : w = (k : Int) := by omega
    rcases (show k = 0 ∨ k = 1 ∨ k = 2 ∨ k = 3 ∨ k = 4 ∨ k = 5 ∨ k = 6 ∨ k = 7 ∨ k = 8 ∨ k = 9 ∨ k = 10 by omega) with rfl | rfl | rfl | rfl | rfl | rfl | rfl | rfl | rfl | rfl | rfl
    · exact x_ob rfl (x_cI (sp_X11_marks W2 (x_rI hq)))
    · exact x_ob rfl (x_cI (sp_X11_benches hG W2 hGH H2 (x_rI hq)))
    · exact x_ob rfl (x_cI (sp_X11_sights W2 (x_rI hq)))
    · exact x_ob rfl (x_cI (sp_X11_struck hG W2 (x_rI hq)))
    · exact x_ob rfl (x_cI (sp_X11_edges hG R2 (x_rI hq)))
    · exact x_ob rfl (x_cI (sp_X11_takenEdges R2 (x_rI hq)))
    · exact x_ob rfl (x_cI (sp_X11_loops hG R2 (x_rI hq)))
    · exact x_ob rfl (x_cI (sp_X11_closing hG W2 R2 fun I3 f3 => x_rI (by
        have := hQ I3 (r2.trans f3.rfr)
        rw [if_pos (by omega)] at this
        exact this)))
    · exact x_ob rfl (x_cI (sp_X11_withHeights hG W2 hGH H2 (x_rI hq)))
    · refine x_gI rfl ?_
      rw [show I2 200 ((7 : Nat) : Int) = ((n : Nat) : Int) by rw [← hn]; exact r2.2 7 (by omega)]
      exact x_rI hq
    · exact x_ob rfl (x_cI (sp_X11_parts hG W2 R2 (x_rI hq)))
  · rw [if_neg (by omega)] at hq
    exact x_rI hq
end Law91
