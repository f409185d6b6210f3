/-! ===== one round of the law ===== -/
def ar (xs : Nat → Int32) (t k : Nat) : Int := (xs (6 * t + k)).toInt
theorem ar_IR (xs : Nat → Int32) (t k : Nat) : IR (ar xs t k) := ⟨Int32.le_toInt _, Int32.toInt_lt _⟩
/-- what a helper of the law answers: what was thrown, and the long that is left -/
def HRs (r : An) (f : Nat → Int) (c : Int) (J : IM) : Prop := match r with
  | .inl v => c = 0 ∧ i64 (J 217 0) = (i32 v).toInt64
  | .inr k => c = f k ∧ (c = 1 ∨ c = 2 ∨ c = 3)
def HRJ (r : An) (f : Nat → Int) (c : Int) (J : IM) : Prop := match r with
  | .inl v => c = 0 ∧ i64 (J 217 0) = i64 v
  | .inr k => c = f k ∧ (c = 1 ∨ c = 2 ∨ c = 3)
def HRz (r : An) (f : Nat → Int) (c : Int) (J : IM) : Prop := match r with
  | .inl v => c = 0 ∧ (v = 0 ∨ v = 1) ∧ J 217 0 = v
  | .inr k => c = f k ∧ (c = 1 ∨ c = 2 ∨ c = 3)
theorem lg_cmp_self (x : Int64) : lg_cmp x x = 0 := by
  have := (lg_cmp0 (a := x.toInt) (b := x.toInt) ⟨Int64.le_toInt x, Int64.toInt_lt x⟩ ⟨Int64.le_toInt x, Int64.toInt_lt x⟩).mpr rfl
  rwa [i64_of] at this
theorem Cf.rn {I I' : IM} {V : Vw} {H : Hw} (f : Cf I I') (h : Rn I V H) : Rn I' V H := ⟨h.1, h.2.1, h.2.2.1, h.2.2.2.1.keep (f.1 201 (by omega)), h.2.2.2.2.keep (f.1 201 (by omega))⟩
section Law63
variable {e : Nat} {I J : IM} {Q : Post} {V : Vw} {H : Hw} {t L : Nat} {xs : Nat → Int32} {F : Sem} {r : An} {f : Nat → Int} {c v' : Int}
theorem sl {k : Nat} {y : Int32} {G : Int32 → Sem} {μ : Mem} (hx : 6 * t + 6 ≤ L ∧ L ≤ 3072) (hk : k ≤ 5) (hy : y = i32 (k : Int)) (h : G (i32 (ar xs t k)) μ Q) : sld L xs (i32 ((6 * t : Nat) : Int) + y) G μ Q := by
  have e1 : i32 ((6 * t : Nat) : Int) + y = i32 ((6 * t + k : Nat) : Int) := by rw [hy, i32_add]; rfl
  rw [e1]
  refine ⟨i32_in (by omega) (by omega) (by omega), ?_⟩
  rw [i32_clamp (by omega) (by omega), Int.toNat_natCast]
  unfold ar at h
  rw [i32_of] at h
  exact h
theorem sp_X11_thrown {G : Int32 → Sem} (h : G (i32 (I 200 0)) (ME e I J) Q) : (ob 11 200 (cI SX11_thrown [.ref 200] G)) (ME e I J) Q := by
  refine x_ob rfl (x_cI ?_)
  refine x_in (Nat.le_of_ble_eq_true rfl) ?_
  dsimp only [bX11_thrown, bX11_thrown_0]
  exact x_gI rfl (x_rI h)
theorem tB (h3 : HRs r f c J) (hok : okr r f (I 200 0) v') (hF : F (ME e I J) Q) :
    (ob 11 200 (cI SX11_thrown [.ref 200] fun v7 => br (v7 = i32 c) (br (i32 c = 0) (aJ 217 0 fun v8 => br ((lg_cmp v8 ((i32 v').toInt64)) = 0) F (rZ 0)) F) (rZ 0))) (ME e I J) Q := by
  refine sp_X11_thrown ?_
  cases r with
  | inl v =>
    obtain ⟨c0, hj⟩ := h3
    obtain ⟨hv, ht⟩ := hok
    rw [ht, c0, hv]
    refine x_brr rfl (x_brr rfl (x_aJ (q := 217) (n := 1) (a := 0) rfl (by omega) (by omega) (by omega) ?_))
    rw [hj, lg_cmp_self]
    exact x_brr rfl hF
  | inr k =>
    obtain ⟨c0, hc⟩ := h3
    have ht : I 200 0 = f k := hok
    rw [ht, c0]
    rw [show (0 : Int32) = i32 0 from rfl]
    exact x_brr rfl (x_eq (by omega) (by omega) (fun h => by omega) (fun _ => hF))
theorem tBJ (h3 : HRJ r f c J) (hok : okr r f (I 200 0) v') (hF : F (ME e I J) Q) :
    (ob 11 200 (cI SX11_thrown [.ref 200] fun v7 => br (v7 = i32 c) (br (i32 c = 0) (aJ 217 0 fun v8 => br ((lg_cmp v8 (i64 v')) = 0) F (rZ 0)) F) (rZ 0))) (ME e I J) Q := by
  refine sp_X11_thrown ?_
  cases r with
  | inl v =>
    obtain ⟨c0, hj⟩ := h3
    obtain ⟨hv, ht⟩ := hok
    rw [ht, c0, hv]
    refine x_brr rfl (x_brr rfl (x_aJ (q := 217) (n := 1) (a := 0) rfl (by omega) (by omega) (by omega) ?_))
    rw [hj, lg_cmp_self]
    exact x_brr rfl hF
  | inr k =>
    obtain ⟨c0, hc⟩ := h3
    have ht : I 200 0 = f k := hok
    rw [ht, c0]
    rw [show (0 : Int32) = i32 0 from rfl]
    exact x_brr rfl (x_eq (by omega) (by omega) (fun h => by omega) (fun _ => hF))
theorem tBz (h3 : HRz r f c J) (hok : okr r f (I 200 0) v') (hF : F (ME e I J) Q) :
    (ob 11 200 (cI SX11_thrown [.ref 200] fun v7 => br (v7 = i32 c) (br (i32 c = 0) (aJ 217 0 fun v8 => br (i32 v' = 0) (br ((lg_cmp v8 0) = 0) F (rZ 0)) (br ((lg_cmp v8 1) = 0) F (rZ 0))) F) (rZ 0))) (ME e I J) Q := by
  refine sp_X11_thrown ?_
  cases r with
  | inl v =>
    obtain ⟨c0, h01, hj⟩ := h3
    obtain ⟨hv, ht⟩ := hok
    rw [ht, c0, hv]
    refine x_brr rfl (x_brr rfl (x_aJ (q := 217) (n := 1) (a := 0) rfl (by omega) (by omega) (by omega) ?_))
    rw [hj]
    rcases h01 with h | h
    · rw [h]; exact x_brr rfl (x_brr (lg_cmp_self _) hF)
    · rw [h]; exact x_br (fun q => absurd q (by decide)) (fun _ => x_brr (lg_cmp_self _) hF)
  | inr k =>
    obtain ⟨c0, hc⟩ := h3
    have ht : I 200 0 = f k := hok
    rw [ht, c0]
    rw [show (0 : Int32) = i32 0 from rfl]
    exact x_brr rfl (x_eq (by omega) (by omega) (fun h => by omega) (fun _ => hF))
theorem sJ_i {G : Sem} {v : Int} (h : ∀ J' : IM, i64 (J' 217 0) = (i32 v).toInt64 → G (ME e I J') Q) : sJ 217 0 ((i32 v).toInt64) G (ME e I J) Q := by
  rw [show (i32 v).toInt64 = i64 ((i32 v).toInt64).toInt from (i64_of _).symm, show (0 : Int32) = i32 0 from rfl]
  refine x_sJ (q := 217) (n := 1) (a := 0) rfl (by omega) (by omega) (by omega) (h _ ?_)
  rw [up_self, i64_of]
theorem sJ_j {G : Sem} {v : Int} (h : ∀ J' : IM, J' 217 0 = v → G (ME e I J') Q) : sJ 217 0 (i64 v) G (ME e I J) Q := by
  rw [show (0 : Int32) = i32 0 from rfl]
  exact x_sJ (q := 217) (n := 1) (a := 0) rfl (by omega) (by omega) (by omega) (h _ up_self)
theorem hs_estimate {a0 a1 : Int} (hC : Cq SX10_estimate [.ref 0, .int (i32 a0), .int (i32 a1)] e I J r) (hk : ∀ k, r = .inr k → k = 1) (hQ : ∀ (c : Int) (I' : IM) (e' : Nat) (J' : IM), Cf I I' → e' ∈ stLs → HRs r c1 c J' → Q (.inl (some (.int (i32 c)))) (ME e' I' J')) : SL_estimate [.ref 0, .int (i32 a0), .int (i32 a1), .ref 217] (ME e I J) Q := by
  refine x_in (Nat.le_of_ble_eq_true rfl) ?_
  dsimp only [bL_estimate, bL_estimate_0]
  refine x_ob rfl (hC _ fun I1 e1 f1 he1 => ?_)
  cases r with
  | inl v => exact sJ_i fun J' hj => x_rI (hQ 0 I1 e1 J' f1 he1 ⟨rfl, hj⟩)
  | inr k =>
    rcases hk k rfl with rfl
    · exact x_rI (hQ 1 I1 e1 J f1 he1 ⟨rfl, by omega⟩)
theorem hs_mark {a0 a1 : Int} (hC : Cq SX10_mark [.ref 0, .int (i32 a0), .int (i32 a1)] e I J r) (hk : ∀ k, r = .inr k → k = 1 ∨ k = 2) (hQ : ∀ (c : Int) (I' : IM) (e' : Nat) (J' : IM), Cf I I' → e' ∈ stLs → HRs r c12 c J' → Q (.inl (some (.int (i32 c)))) (ME e' I' J')) : SL_mark [.ref 0, .int (i32 a0), .int (i32 a1), .ref 217] (ME e I J) Q := by
  refine x_in (Nat.le_of_ble_eq_true rfl) ?_
  dsimp only [bL_mark, bL_mark_0]
  refine x_ob rfl (hC _ fun I1 e1 f1 he1 => ?_)
  cases r with
  | inl v => exact sJ_i fun J' hj => x_rI (hQ 0 I1 e1 J' f1 he1 ⟨rfl, hj⟩)
  | inr k =>
    rcases hk k rfl with rfl | rfl
    · exact x_rI (hQ 1 I1 e1 J f1 he1 ⟨rfl, by omega⟩)
    · exact x_rI (hQ 2 I1 e1 J f1 he1 ⟨rfl, by omega⟩)
theorem hs_height {a0 : Int} (hC : Cq SX10_height [.ref 0, .int (i32 a0)] e I J r) (hk : ∀ k, r = .inr k → k = 1) (hQ : ∀ (c : Int) (I' : IM) (e' : Nat) (J' : IM), Cf I I' → e' ∈ stLs → HRs r c1 c J' → Q (.inl (some (.int (i32 c)))) (ME e' I' J')) : SL_height [.ref 0, .int (i32 a0), .ref 217] (ME e I J) Q := by
  refine x_in (Nat.le_of_ble_eq_true rfl) ?_
  dsimp only [bL_height, bL_height_0]
  refine x_ob rfl (hC _ fun I1 e1 f1 he1 => ?_)
  cases r with
  | inl v => exact sJ_i fun J' hj => x_rI (hQ 0 I1 e1 J' f1 he1 ⟨rfl, hj⟩)
  | inr k =>
    rcases hk k rfl with rfl
    · exact x_rI (hQ 1 I1 e1 J f1 he1 ⟨rfl, by omega⟩)
theorem hs_whyNone {a0 : Int} (hC : Cq SX10_whyNone [.ref 0, .int (i32 a0)] e I J r) (hk : ∀ k, r = .inr k → k = 1) (hQ : ∀ (c : Int) (I' : IM) (e' : Nat) (J' : IM), Cf I I' → e' ∈ stLs → HRs r c1 c J' → Q (.inl (some (.int (i32 c)))) (ME e' I' J')) : SL_whyNone [.ref 0, .int (i32 a0), .ref 217] (ME e I J) Q := by
  refine x_in (Nat.le_of_ble_eq_true rfl) ?_
  dsimp only [bL_whyNone, bL_whyNone_0]
  refine x_ob rfl (hC _ fun I1 e1 f1 he1 => ?_)
  cases r with
  | inl v => exact sJ_i fun J' hj => x_rI (hQ 0 I1 e1 J' f1 he1 ⟨rfl, hj⟩)
  | inr k =>
    rcases hk k rfl with rfl
    · exact x_rI (hQ 1 I1 e1 J f1 he1 ⟨rfl, by omega⟩)
theorem hs_sight {a0 a1 : Int} (hC : Cq SX10_sight [.ref 0, .int (i32 a0), .int (i32 a1)] e I J r) (hk : ∀ k, r = .inr k → k = 1 ∨ k = 2) (hQ : ∀ (c : Int) (I' : IM) (e' : Nat) (J' : IM), Cf I I' → e' ∈ stLs → HRs r c12 c J' → Q (.inl (some (.int (i32 c)))) (ME e' I' J')) : SL_sight [.ref 0, .int (i32 a0), .int (i32 a1), .ref 217] (ME e I J) Q := by
  refine x_in (Nat.le_of_ble_eq_true rfl) ?_
  dsimp only [bL_sight, bL_sight_0]
  refine x_ob rfl (hC _ fun I1 e1 f1 he1 => ?_)
  cases r with
  | inl v => exact sJ_i fun J' hj => x_rI (hQ 0 I1 e1 J' f1 he1 ⟨rfl, hj⟩)
  | inr k =>
    rcases hk k rfl with rfl | rfl
    · exact x_rI (hQ 1 I1 e1 J f1 he1 ⟨rfl, by omega⟩)
    · exact x_rI (hQ 2 I1 e1 J f1 he1 ⟨rfl, by omega⟩)
theorem hs_rise {a0 a1 : Int} (hC : Cq SX10_rise [.ref 0, .int (i32 a0), .int (i32 a1)] e I J r) (hk : ∀ k, r = .inr k → k = 1) (hQ : ∀ (c : Int) (I' : IM) (e' : Nat) (J' : IM), Cf I I' → e' ∈ stLs → HRs r c1 c J' → Q (.inl (some (.int (i32 c)))) (ME e' I' J')) : SL_rise [.ref 0, .int (i32 a0), .int (i32 a1), .ref 217] (ME e I J) Q := by
  refine x_in (Nat.le_of_ble_eq_true rfl) ?_
  dsimp only [bL_rise, bL_rise_0]
  refine x_ob rfl (hC _ fun I1 e1 f1 he1 => ?_)
  cases r with
  | inl v => exact sJ_i fun J' hj => x_rI (hQ 0 I1 e1 J' f1 he1 ⟨rfl, hj⟩)
  | inr k =>
    rcases hk k rfl with rfl
    · exact x_rI (hQ 1 I1 e1 J f1 he1 ⟨rfl, by omega⟩)
theorem hs_edge {a0 a1 a2 : Int} (hC : Cq SX10_edge [.ref 0, .int (i32 a0), .int (i32 a1), .int (i32 a2)] e I J r) (hk : ∀ k, r = .inr k → k = 1 ∨ k = 2) (hQ : ∀ (c : Int) (I' : IM) (e' : Nat) (J' : IM), Cf I I' → e' ∈ stLs → HRs r c12 c J' → Q (.inl (some (.int (i32 c)))) (ME e' I' J')) : SL_edge [.ref 0, .int (i32 a0), .int (i32 a1), .int (i32 a2), .ref 217] (ME e I J) Q := by
  refine x_in (Nat.le_of_ble_eq_true rfl) ?_
  dsimp only [bL_edge, bL_edge_0]
  refine x_ob rfl (hC _ fun I1 e1 f1 he1 => ?_)
  cases r with
  | inl v => exact sJ_i fun J' hj => x_rI (hQ 0 I1 e1 J' f1 he1 ⟨rfl, hj⟩)
  | inr k =>
    rcases hk k rfl with rfl | rfl
    · exact x_rI (hQ 1 I1 e1 J f1 he1 ⟨rfl, by omega⟩)
    · exact x_rI (hQ 2 I1 e1 J f1 he1 ⟨rfl, by omega⟩)
theorem hs_along {a0 a1 : Int} (hC : Cq SX10_along [.ref 0, .int (i32 a0), .int (i32 a1)] e I J r) (hk : ∀ k, r = .inr k → k = 1) (hQ : ∀ (c : Int) (I' : IM) (e' : Nat) (J' : IM), Cf I I' → e' ∈ stLs → HRs r c1 c J' → Q (.inl (some (.int (i32 c)))) (ME e' I' J')) : SL_along [.ref 0, .int (i32 a0), .int (i32 a1), .ref 217] (ME e I J) Q := by
  refine x_in (Nat.le_of_ble_eq_true rfl) ?_
  dsimp only [bL_along, bL_along_0]
  refine x_ob rfl (hC _ fun I1 e1 f1 he1 => ?_)
  cases r with
  | inl v => exact sJ_i fun J' hj => x_rI (hQ 0 I1 e1 J' f1 he1 ⟨rfl, hj⟩)
  | inr k =>
    rcases hk k rfl with rfl
    · exact x_rI (hQ 1 I1 e1 J f1 he1 ⟨rfl, by omega⟩)
theorem hs_loop {a0 a1 : Int} (hC : Cq SX10_loop [.ref 0, .int (i32 a0), .int (i32 a1)] e I J r) (hk : ∀ k, r = .inr k → k = 1 ∨ k = 2) (hQ : ∀ (c : Int) (I' : IM) (e' : Nat) (J' : IM), Cf I I' → e' ∈ stLs → HRs r c12 c J' → Q (.inl (some (.int (i32 c)))) (ME e' I' J')) : SL_loop [.ref 0, .int (i32 a0), .int (i32 a1), .ref 217] (ME e I J) Q := by
  refine x_in (Nat.le_of_ble_eq_true rfl) ?_
  dsimp only [bL_loop, bL_loop_0]
  refine x_ob rfl (hC _ fun I1 e1 f1 he1 => ?_)
  cases r with
  | inl v => exact sJ_i fun J' hj => x_rI (hQ 0 I1 e1 J' f1 he1 ⟨rfl, hj⟩)
  | inr k =>
    rcases hk k rfl with rfl | rfl
    · exact x_rI (hQ 1 I1 e1 J f1 he1 ⟨rfl, by omega⟩)
    · exact x_rI (hQ 2 I1 e1 J f1 he1 ⟨rfl, by omega⟩)
theorem hs_loopMark {a0 a1 : Int} (hC : Cq SX10_loopMark [.ref 0, .int (i32 a0), .int (i32 a1)] e I J r) (hk : ∀ k, r = .inr k → k = 1) (hQ : ∀ (c : Int) (I' : IM) (e' : Nat) (J' : IM), Cf I I' → e' ∈ stLs → HRs r c1 c J' → Q (.inl (some (.int (i32 c)))) (ME e' I' J')) : SL_loopMark [.ref 0, .int (i32 a0), .int (i32 a1), .ref 217] (ME e I J) Q := by
  refine x_in (Nat.le_of_ble_eq_true rfl) ?_
  dsimp only [bL_loopMark, bL_loopMark_0]
  refine x_ob rfl (hC _ fun I1 e1 f1 he1 => ?_)
  cases r with
  | inl v => exact sJ_i fun J' hj => x_rI (hQ 0 I1 e1 J' f1 he1 ⟨rfl, hj⟩)
  | inr k =>
    rcases hk k rfl with rfl
    · exact x_rI (hQ 1 I1 e1 J f1 he1 ⟨rfl, by omega⟩)
theorem hs_tension {a0 : Int} (hC : Cq SX10_tension [.ref 0, .int (i32 a0)] e I J r) (hk : ∀ k, r = .inr k → k = 1) (hQ : ∀ (c : Int) (I' : IM) (e' : Nat) (J' : IM), Cf I I' → e' ∈ stLs → HRs r c1 c J' → Q (.inl (some (.int (i32 c)))) (ME e' I' J')) : SL_tension [.ref 0, .int (i32 a0), .ref 217] (ME e I J) Q := by
  refine x_in (Nat.le_of_ble_eq_true rfl) ?_
  dsimp only [bL_tension, bL_tension_0]
  refine x_ob rfl (hC _ fun I1 e1 f1 he1 => ?_)
  cases r with
  | inl v => exact sJ_i fun J' hj => x_rI (hQ 0 I1 e1 J' f1 he1 ⟨rfl, hj⟩)
  | inr k =>
    rcases hk k rfl with rfl
    · exact x_rI (hQ 1 I1 e1 J f1 he1 ⟨rfl, by omega⟩)
theorem hs_neighbour {a0 a1 : Int} (hC : Cq SX10_neighbour [.ref 0, .int (i32 a0), .int (i32 a1)] e I J r) (hk : ∀ k, r = .inr k → k = 1) (hQ : ∀ (c : Int) (I' : IM) (e' : Nat) (J' : IM), Cf I I' → e' ∈ stLs → HRs r c1 c J' → Q (.inl (some (.int (i32 c)))) (ME e' I' J')) : SL_neighbour [.ref 0, .int (i32 a0), .int (i32 a1), .ref 217] (ME e I J) Q := by
  refine x_in (Nat.le_of_ble_eq_true rfl) ?_
  dsimp only [bL_neighbour, bL_neighbour_0]
  refine x_ob rfl (hC _ fun I1 e1 f1 he1 => ?_)
  cases r with
  | inl v => exact sJ_i fun J' hj => x_rI (hQ 0 I1 e1 J' f1 he1 ⟨rfl, hj⟩)
  | inr k =>
    rcases hk k rfl with rfl
    · exact x_rI (hQ 1 I1 e1 J f1 he1 ⟨rfl, by omega⟩)
theorem hs_loopsOf {a0 : Int} (hC : Cq SX10_loopsOf [.ref 0, .int (i32 a0)] e I J r) (hk : ∀ k, r = .inr k → k = 1) (hQ : ∀ (c : Int) (I' : IM) (e' : Nat) (J' : IM), Cf I I' → e' ∈ stLs → HRs r c1 c J' → Q (.inl (some (.int (i32 c)))) (ME e' I' J')) : SL_loopsOf [.ref 0, .int (i32 a0), .ref 217] (ME e I J) Q := by
  refine x_in (Nat.le_of_ble_eq_true rfl) ?_
  dsimp only [bL_loopsOf, bL_loopsOf_0]
  refine x_ob rfl (hC _ fun I1 e1 f1 he1 => ?_)
  cases r with
  | inl v => exact sJ_i fun J' hj => x_rI (hQ 0 I1 e1 J' f1 he1 ⟨rfl, hj⟩)
  | inr k =>
    rcases hk k rfl with rfl
    · exact x_rI (hQ 1 I1 e1 J f1 he1 ⟨rfl, by omega⟩)
theorem hs_closedIf {a0 : Int} (hC : Cq SX10_closedIf [.ref 0, .int (i32 a0)] e I J r) (hk : ∀ k, r = .inr k → k = 1) (hQ : ∀ (c : Int) (I' : IM) (e' : Nat) (J' : IM), Cf I I' → e' ∈ stLs → HRs r c1 c J' → Q (.inl (some (.int (i32 c)))) (ME e' I' J')) : SL_closedIf [.ref 0, .int (i32 a0), .ref 217] (ME e I J) Q := by
  refine x_in (Nat.le_of_ble_eq_true rfl) ?_
  dsimp only [bL_closedIf, bL_closedIf_0]
  refine x_ob rfl (hC _ fun I1 e1 f1 he1 => ?_)
  cases r with
  | inl v => exact sJ_i fun J' hj => x_rI (hQ 0 I1 e1 J' f1 he1 ⟨rfl, hj⟩)
  | inr k =>
    rcases hk k rfl with rfl
    · exact x_rI (hQ 1 I1 e1 J f1 he1 ⟨rfl, by omega⟩)
theorem hs_errorWith {a0 : Int} (hC : Cq SX10_errorWith [.ref 0, .int (i32 a0)] e I J r) (hk : ∀ k, r = .inr k → k = 2) (hQ : ∀ (c : Int) (I' : IM) (e' : Nat) (J' : IM), Cf I I' → e' ∈ stLs → HRs r c1 c J' → Q (.inl (some (.int (i32 c)))) (ME e' I' J')) : SL_errorWith [.ref 0, .int (i32 a0), .ref 217] (ME e I J) Q := by
  refine x_in (Nat.le_of_ble_eq_true rfl) ?_
  dsimp only [bL_errorWith, bL_errorWith_0]
  refine x_ob rfl (hC _ fun I1 e1 f1 he1 => ?_)
  cases r with
  | inl v => exact sJ_i fun J' hj => x_rI (hQ 0 I1 e1 J' f1 he1 ⟨rfl, hj⟩)
  | inr k =>
    rcases hk k rfl with rfl
    · exact x_rI (hQ 1 I1 e1 J f1 he1 ⟨rfl, by omega⟩)
theorem hs_heightIf {a0 : Int} (hC : Cq SX10_heightIf [.ref 0, .int (i32 a0)] e I J r) (hk : ∀ k, r = .inr k → k = 1) (hQ : ∀ (c : Int) (I' : IM) (e' : Nat) (J' : IM), Cf I I' → e' ∈ stLs → HRs r c1 c J' → Q (.inl (some (.int (i32 c)))) (ME e' I' J')) : SL_heightIf [.ref 0, .int (i32 a0), .ref 217] (ME e I J) Q := by
  refine x_in (Nat.le_of_ble_eq_true rfl) ?_
  dsimp only [bL_heightIf, bL_heightIf_0]
  refine x_ob rfl (hC _ fun I1 e1 f1 he1 => ?_)
  cases r with
  | inl v => exact sJ_i fun J' hj => x_rI (hQ 0 I1 e1 J' f1 he1 ⟨rfl, hj⟩)
  | inr k =>
    rcases hk k rfl with rfl
    · exact x_rI (hQ 1 I1 e1 J f1 he1 ⟨rfl, by omega⟩)
theorem hs_misfitAfter {a0 : Int} (hC : CqJ SX10_misfitAfter [.ref 0, .int (i32 a0)] e I J r) (hk : ∀ k, r = .inr k → k = 2) (hQ : ∀ (c : Int) (I' : IM) (e' : Nat) (J' : IM), Cf I I' → e' ∈ stLs → HRJ r c1 c J' → Q (.inl (some (.int (i32 c)))) (ME e' I' J')) : SL_misfitAfter [.ref 0, .int (i32 a0), .ref 217] (ME e I J) Q := by
  refine x_in (Nat.le_of_ble_eq_true rfl) ?_
  dsimp only [bL_misfitAfter, bL_misfitAfter_0]
  refine x_ob rfl (hC _ fun I1 e1 f1 he1 => ?_)
  cases r with
  | inl v => exact sJ_j fun J' hj => x_rI (hQ 0 I1 e1 J' f1 he1 ⟨rfl, by rw [hj]⟩)
  | inr k =>
    rcases hk k rfl with rfl
    · exact x_rI (hQ 1 I1 e1 J f1 he1 ⟨rfl, by omega⟩)
theorem hs_addSight {a0 a1 a2 a3 a4 : Int} {hd n : Nat} {Ls : Nat → Vw × Hw} {V' : Vw} {H' : Hw} (hC : Cc SX10_addSight [.ref 0, .int (i32 a0), .int (i32 a1), .int (i32 a2), .int (i32 a3), .int (i32 a4)] e I J V H hd n Ls r V' H') (hk : ∀ k, r = .inr k → k = 1 ∨ k = 2 ∨ k = 3)
    (hQ : ∀ (c : Int) (I' : IM) (e' : Nat) (J' : IM), e' ∈ stLs → HRs r c12 c J' → (∀ v, r = .inl v → Cg I I' ∧ Rst I' 8 V' ∧ Rht I' 8 H' ∧ HI I' ((hd + 1) % 10) (min (n + 1) 10) (pushL (V, H) Ls)) → (∀ k, r = .inr k → I' = I) → Q (.inl (some (.int (i32 c)))) (ME e' I' J')) (he : e ∈ stLs) : SL_addSight [.ref 0, .int (i32 a0), .int (i32 a1), .int (i32 a2), .int (i32 a3), .int (i32 a4), .ref 217] (ME e I J) Q := by
  refine x_in (Nat.le_of_ble_eq_true rfl) ?_
  dsimp only [bL_addSight, bL_addSight_0]
  refine x_ob rfl (hC _ (fun v hv I1 e1 g1 he1 r1 r2 r3 => ?_) (fun k hkk => ?_))
  · subst hv
    exact sJ_i fun J' hj => x_rI (hQ 0 I1 e1 J' he1 ⟨rfl, hj⟩ (fun _ _ => ⟨g1, r1, r2, r3⟩) (fun k h => by cases h))
  · have ok := hk k hkk
    subst hkk
    rcases ok with rfl | rfl | rfl
    · exact x_rI (hQ 1 I e J he ⟨rfl, by omega⟩ (fun v h => by cases h) (fun _ _ => rfl))
    · exact x_rI (hQ 2 I e J he ⟨rfl, by omega⟩ (fun v h => by cases h) (fun _ _ => rfl))
    · exact x_rI (hQ 3 I e J he ⟨rfl, by omega⟩ (fun v h => by cases h) (fun _ _ => rfl))
theorem hs_strike {a0 a1 : Int} {hd n : Nat} {Ls : Nat → Vw × Hw} {V' : Vw} {H' : Hw} (hC : Cc SX10_strike [.ref 0, .int (i32 a0), .int (i32 a1)] e I J V H hd n Ls r V' H') (hk : ∀ k, r = .inr k → k = 1) (hz : ∀ v, r = .inl v → v = 0 ∨ v = 1)
    (hQ : ∀ (c : Int) (I' : IM) (e' : Nat) (J' : IM), e' ∈ stLs → HRz r c1 c J' → (∀ v, r = .inl v → Cg I I' ∧ Rst I' 8 V' ∧ Rht I' 8 H' ∧ HI I' ((hd + 1) % 10) (min (n + 1) 10) (pushL (V, H) Ls)) → (∀ k, r = .inr k → I' = I) → Q (.inl (some (.int (i32 c)))) (ME e' I' J')) (he : e ∈ stLs) : SL_strike [.ref 0, .int (i32 a0), .int (i32 a1), .ref 217] (ME e I J) Q := by
  refine x_in (Nat.le_of_ble_eq_true rfl) ?_
  dsimp only [bL_strike, bL_strike_0]
  refine x_ob rfl (hC _ (fun v hv I1 e1 g1 he1 r1 r2 r3 => ?_) (fun k hkk => ?_))
  · subst hv
    dsimp only
    rw [show (0 : Int32) = i32 0 from rfl]
    have h01 := hz v rfl
    refine x_eq (by omega) (by omega) (fun h0 => ?_) (fun h0 => ?_)
    · rw [show (0 : Int64) = i64 0 from rfl]
      exact sJ_j fun J' hj => x_rI (hQ 0 I1 e1 J' he1 ⟨rfl, h01, by rw [hj, h0]⟩ (fun _ _ => ⟨g1, r1, r2, r3⟩) (fun k h => by cases h))
    · rw [show (1 : Int64) = i64 1 from rfl]
      exact sJ_j fun J' hj => x_rI (hQ 0 I1 e1 J' he1 ⟨rfl, h01, by rw [hj]; omega⟩ (fun _ _ => ⟨g1, r1, r2, r3⟩) (fun k h => by cases h))
  · have ok := hk k hkk
    subst hkk
    rcases ok with rfl
    · exact x_rI (hQ 1 I e J he ⟨rfl, by omega⟩ (fun v h => by cases h) (fun _ _ => rfl))
theorem hs_swap {a0 a1 : Int} {hd n : Nat} {Ls : Nat → Vw × Hw} {V' : Vw} {H' : Hw} (hC : Cc SX10_swap [.ref 0, .int (i32 a0), .int (i32 a1)] e I J V H hd n Ls r V' H') (hk : ∀ k, r = .inr k → k = 1 ∨ k = 2)
    (hQ : ∀ (c : Int) (I' : IM) (e' : Nat) (J' : IM), e' ∈ stLs → HRs r c12 c J' → (∀ v, r = .inl v → Cg I I' ∧ Rst I' 8 V' ∧ Rht I' 8 H' ∧ HI I' ((hd + 1) % 10) (min (n + 1) 10) (pushL (V, H) Ls)) → (∀ k, r = .inr k → I' = I) → Q (.inl (some (.int (i32 c)))) (ME e' I' J')) (he : e ∈ stLs) : SL_swap [.ref 0, .int (i32 a0), .int (i32 a1), .ref 217] (ME e I J) Q := by
  refine x_in (Nat.le_of_ble_eq_true rfl) ?_
  dsimp only [bL_swap, bL_swap_0]
  refine x_ob rfl (hC _ (fun v hv I1 e1 g1 he1 r1 r2 r3 => ?_) (fun k hkk => ?_))
  · subst hv
    exact sJ_i fun J' hj => x_rI (hQ 0 I1 e1 J' he1 ⟨rfl, hj⟩ (fun _ _ => ⟨g1, r1, r2, r3⟩) (fun k h => by cases h))
  · have ok := hk k hkk
    subst hkk
    rcases ok with rfl | rfl
    · exact x_rI (hQ 1 I e J he ⟨rfl, by omega⟩ (fun v h => by cases h) (fun _ _ => rfl))
    · exact x_rI (hQ 2 I e J he ⟨rfl, by omega⟩ (fun v h => by cases h) (fun _ _ => rfl))
theorem hs_fix {a0 a1 : Int} {hd n : Nat} {Ls : Nat → Vw × Hw} {V' : Vw} {H' : Hw} (hC : Cc SX10_fix [.ref 0, .int (i32 a0), .int (i32 a1)] e I J V H hd n Ls r V' H') (hk : ∀ k, r = .inr k → k = 1 ∨ k = 2) (hz : ∀ v, r = .inl v → v = 0 ∨ v = 1)
    (hQ : ∀ (c : Int) (I' : IM) (e' : Nat) (J' : IM), e' ∈ stLs → HRz r c12 c J' → (∀ v, r = .inl v → Cg I I' ∧ Rst I' 8 V' ∧ Rht I' 8 H' ∧ HI I' ((hd + 1) % 10) (min (n + 1) 10) (pushL (V, H) Ls)) → (∀ k, r = .inr k → I' = I) → Q (.inl (some (.int (i32 c)))) (ME e' I' J')) (he : e ∈ stLs) : SL_fix [.ref 0, .int (i32 a0), .int (i32 a1), .ref 217] (ME e I J) Q := by
  refine x_in (Nat.le_of_ble_eq_true rfl) ?_
  dsimp only [bL_fix, bL_fix_0]
  refine x_ob rfl (hC _ (fun v hv I1 e1 g1 he1 r1 r2 r3 => ?_) (fun k hkk => ?_))
  · subst hv
    dsimp only
    rw [show (0 : Int32) = i32 0 from rfl]
    have h01 := hz v rfl
    refine x_eq (by omega) (by omega) (fun h0 => ?_) (fun h0 => ?_)
    · rw [show (0 : Int64) = i64 0 from rfl]
      exact sJ_j fun J' hj => x_rI (hQ 0 I1 e1 J' he1 ⟨rfl, h01, by rw [hj, h0]⟩ (fun _ _ => ⟨g1, r1, r2, r3⟩) (fun k h => by cases h))
    · rw [show (1 : Int64) = i64 1 from rfl]
      exact sJ_j fun J' hj => x_rI (hQ 0 I1 e1 J' he1 ⟨rfl, h01, by rw [hj]; omega⟩ (fun _ _ => ⟨g1, r1, r2, r3⟩) (fun k h => by cases h))
  · have ok := hk k hkk
    subst hkk
    rcases ok with rfl | rfl
    · exact x_rI (hQ 1 I e J he ⟨rfl, by omega⟩ (fun v h => by cases h) (fun _ _ => rfl))
    · exact x_rI (hQ 2 I e J he ⟨rfl, by omega⟩ (fun v h => by cases h) (fun _ _ => rfl))
theorem hs_free {a0 : Int} {hd n : Nat} {Ls : Nat → Vw × Hw} {V' : Vw} {H' : Hw} (hC : Cc SX10_free [.ref 0, .int (i32 a0)] e I J V H hd n Ls r V' H') (hk : ∀ k, r = .inr k → k = 1 ∨ k = 3)
    (hQ : ∀ (c : Int) (I' : IM) (e' : Nat) (J' : IM), e' ∈ stLs → HRs r c13 c J' → (∀ v, r = .inl v → Cg I I' ∧ Rst I' 8 V' ∧ Rht I' 8 H' ∧ HI I' ((hd + 1) % 10) (min (n + 1) 10) (pushL (V, H) Ls)) → (∀ k, r = .inr k → I' = I) → Q (.inl (some (.int (i32 c)))) (ME e' I' J')) (he : e ∈ stLs) : SL_free [.ref 0, .int (i32 a0), .ref 217] (ME e I J) Q := by
  refine x_in (Nat.le_of_ble_eq_true rfl) ?_
  dsimp only [bL_free, bL_free_0]
  refine x_ob rfl (hC _ (fun v hv I1 e1 g1 he1 r1 r2 r3 => ?_) (fun k hkk => ?_))
  · subst hv
    exact sJ_i fun J' hj => x_rI (hQ 0 I1 e1 J' he1 ⟨rfl, hj⟩ (fun _ _ => ⟨g1, r1, r2, r3⟩) (fun k h => by cases h))
  · have ok := hk k hkk
    subst hkk
    rcases ok with rfl | rfl
    · exact x_rI (hQ 1 I e J he ⟨rfl, by omega⟩ (fun v h => by cases h) (fun _ _ => rfl))
    · exact x_rI (hQ 2 I e J he ⟨rfl, by omega⟩ (fun v h => by cases h) (fun _ _ => rfl))
theorem hs_relax {a0 : Int} {hd n : Nat} {Ls : Nat → Vw × Hw} {V' : Vw} {H' : Hw} (hC : Cc SX10_relax [.ref 0, .int (i32 a0)] e I J V H hd n Ls r V' H') (hk : ∀ k, r = .inr k → k = 2)
    (hQ : ∀ (c : Int) (I' : IM) (e' : Nat) (J' : IM), e' ∈ stLs → HRs r c1 c J' → (∀ v, r = .inl v → Cg I I' ∧ Rst I' 8 V' ∧ Rht I' 8 H' ∧ HI I' ((hd + 1) % 10) (min (n + 1) 10) (pushL (V, H) Ls)) → (∀ k, r = .inr k → I' = I) → Q (.inl (some (.int (i32 c)))) (ME e' I' J')) (he : e ∈ stLs) : SL_relax [.ref 0, .int (i32 a0), .ref 217] (ME e I J) Q := by
  refine x_in (Nat.le_of_ble_eq_true rfl) ?_
  dsimp only [bL_relax, bL_relax_0]
  refine x_ob rfl (hC _ (fun v hv I1 e1 g1 he1 r1 r2 r3 => ?_) (fun k hkk => ?_))
  · subst hv
    exact sJ_i fun J' hj => x_rI (hQ 0 I1 e1 J' he1 ⟨rfl, hj⟩ (fun _ _ => ⟨g1, r1, r2, r3⟩) (fun k h => by cases h))
  · have ok := hk k hkk
    subst hkk
    rcases ok with rfl
    · exact x_rI (hQ 1 I e J he ⟨rfl, by omega⟩ (fun v h => by cases h) (fun _ _ => rfl))
theorem hs_tellError {a0 : Int} {hd n : Nat} {Ls : Nat → Vw × Hw} {V' : Vw} {H' : Hw} (hC : Cc SX10_tellError [.ref 0, .int (i32 a0)] e I J V H hd n Ls r V' H') (hk : ∀ k, r = .inr k → k = 2)
    (hQ : ∀ (c : Int) (I' : IM) (e' : Nat) (J' : IM), e' ∈ stLs → HRs r c1 c J' → (∀ v, r = .inl v → Cg I I' ∧ Rst I' 8 V' ∧ Rht I' 8 H' ∧ HI I' ((hd + 1) % 10) (min (n + 1) 10) (pushL (V, H) Ls)) → (∀ k, r = .inr k → I' = I) → Q (.inl (some (.int (i32 c)))) (ME e' I' J')) (he : e ∈ stLs) : SL_tellError [.ref 0, .int (i32 a0), .ref 217] (ME e I J) Q := by
  refine x_in (Nat.le_of_ble_eq_true rfl) ?_
  dsimp only [bL_tellError, bL_tellError_0]
  refine x_ob rfl (hC _ (fun v hv I1 e1 g1 he1 r1 r2 r3 => ?_) (fun k hkk => ?_))
  · subst hv
    exact sJ_i fun J' hj => x_rI (hQ 0 I1 e1 J' he1 ⟨rfl, hj⟩ (fun _ _ => ⟨g1, r1, r2, r3⟩) (fun k h => by cases h))
  · have ok := hk k hkk
    subst hkk
    rcases ok with rfl
    · exact x_rI (hQ 1 I e J he ⟨rfl, by omega⟩ (fun v h => by cases h) (fun _ _ => rfl))
theorem hs_set {a0 a1 : Int} {hd n : Nat} {Ls : Nat → Vw × Hw} {V' : Vw} {H' : Hw} (hC : Cc SX10_set [.ref 0, .int (i32 a0), .int (i32 a1)] e I J V H hd n Ls r V' H') (hk : ∀ k, r = .inr k → k = 2)
    (hQ : ∀ (c : Int) (I' : IM) (e' : Nat) (J' : IM), e' ∈ stLs → HRs r c1 c J' → (∀ v, r = .inl v → Cg I I' ∧ Rst I' 8 V' ∧ Rht I' 8 H' ∧ HI I' ((hd + 1) % 10) (min (n + 1) 10) (pushL (V, H) Ls)) → (∀ k, r = .inr k → I' = I) → Q (.inl (some (.int (i32 c)))) (ME e' I' J')) (he : e ∈ stLs) : SL_set [.ref 0, .int (i32 a0), .int (i32 a1), .ref 217] (ME e I J) Q := by
  refine x_in (Nat.le_of_ble_eq_true rfl) ?_
  dsimp only [bL_set, bL_set_0]
  refine x_ob rfl (hC _ (fun v hv I1 e1 g1 he1 r1 r2 r3 => ?_) (fun k hkk => ?_))
  · subst hv
    exact sJ_i fun J' hj => x_rI (hQ 0 I1 e1 J' he1 ⟨rfl, hj⟩ (fun _ _ => ⟨g1, r1, r2, r3⟩) (fun k h => by cases h))
  · have ok := hk k hkk
    subst hkk
    rcases ok with rfl
    · exact x_rI (hQ 1 I e J he ⟨rfl, by omega⟩ (fun v h => by cases h) (fun _ _ => rfl))
theorem hs_printLoop {a0 : Int} {o : Option (List Int)} (hC : CqO SX10_printLoop [.ref 0, .int (i32 a0)] e I J o)
    (h1 : ∀ l, o = some l → ∀ (I' : IM) (e' : Nat) (J' : IM), e' ∈ stLs → Cx I I' → Tx I' 3 4 l → i64 (J' 217 0) = (i32 (l.length : Int)).toInt64 → Q (.inl (some (.int (i32 0)))) (ME e' I' J')) (h2 : o = none → ∀ (I' : IM) (e' : Nat), e' ∈ stLs → Cf I I' → Q (.inl (some (.int (i32 1)))) (ME e' I' J)) : SL_printLoop [.ref 0, .int (i32 a0), .ref 217] (ME e I J) Q := by
  refine x_in (Nat.le_of_ble_eq_true rfl) ?_
  dsimp only [bL_printLoop, bL_printLoop_0]
  refine x_ob rfl (hC _ (fun l hl I1 e1 he1 c1 t1 => ?_) (fun hn I1 e1 he1 f1 => ?_))
  · exact sJ_i fun J' hj => x_rI (h1 l hl I1 e1 J' he1 c1 t1 hj)
  · exact x_rI (h2 hn I1 e1 he1 f1)
theorem hs_printSight {a0 : Int} {o : Option (List Int)} (hC : CqO SX10_printSight [.ref 0, .int (i32 a0)] e I J o)
    (h1 : ∀ l, o = some l → ∀ (I' : IM) (e' : Nat) (J' : IM), e' ∈ stLs → Cx I I' → Tx I' 3 4 l → i64 (J' 217 0) = (i32 (l.length : Int)).toInt64 → Q (.inl (some (.int (i32 0)))) (ME e' I' J')) (h2 : o = none → ∀ (I' : IM) (e' : Nat), e' ∈ stLs → Cf I I' → Q (.inl (some (.int (i32 1)))) (ME e' I' J)) : SL_printSight [.ref 0, .int (i32 a0), .ref 217] (ME e I J) Q := by
  refine x_in (Nat.le_of_ble_eq_true rfl) ?_
  dsimp only [bL_printSight, bL_printSight_0]
  refine x_ob rfl (hC _ (fun l hl I1 e1 he1 c1 t1 => ?_) (fun hn I1 e1 he1 f1 => ?_))
  · exact sJ_i fun J' hj => x_rI (h1 l hl I1 e1 J' he1 c1 t1 hj)
  · exact x_rI (h2 hn I1 e1 he1 f1)
end Law63
