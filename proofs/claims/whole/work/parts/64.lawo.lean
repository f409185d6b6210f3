section Law64
variable {e t L : Nat} {I J : IM} {Q : Post} {xs : Nat → Int32} {Jn : LT}
theorem k8 (hs : St t I) (he : e ∈ stLs) (hx : 6 * t + 6 ≤ L ∧ L ≤ 3072) (hF : ∀ (I' J' : IM) (e' : Nat), e' ∈ stLs → St (t + 1) I' → Jn 0 200 217 (i32 ((6 * t : Nat) : Int) + 6) (ME e' I' J') Q) : cl8 L xs Jn 0 200 217 (i32 ((6 * t : Nat) : Int)) (ME e I J) Q := by
  obtain ⟨V, H, hN, hh, sv, io, oo, eo, qw⟩ := id hs
  have hM : Mt t ≤ 700000000 := by unfold Mt; omega
  have cn := hN.cn hM
  have rn := hN.rn hM
  unfold cl8
  refine sl hx (k := 1) (by omega) rfl ?_
  refine sl hx (k := 2) (by omega) rfl ?_
  refine x_cI (hs_estimate (cq_estimate cn he (ar_IR xs t 1) (ar_IR xs t 2)) (fun k hk => by unfold an_est at hk; (repeat' split at hk) <;> cases hk <;> simp) fun c I1 e1 J1 f1 he1 h1 => ?_)
  dsimp only
  refine sl hx (k := 1) (by omega) rfl ?_
  refine sl hx (k := 2) (by omega) rfl ?_
  refine x_ob rfl (x_cI (rq_estimate (f1.rn rn) (ar_IR xs t 1) (ar_IR xs t 2) _ fun I2 v' f2 ok => ?_))
  exact tB h1 ok (hF I2 J1 e1 he1 (hs.q (f1.kw f2.w)))
theorem k10 (hs : St t I) (he : e ∈ stLs) (hx : 6 * t + 6 ≤ L ∧ L ≤ 3072) (hF : ∀ (I' J' : IM) (e' : Nat), e' ∈ stLs → St (t + 1) I' → Jn 0 200 217 (i32 ((6 * t : Nat) : Int) + 6) (ME e' I' J') Q) : cl10 L xs Jn 0 200 217 (i32 ((6 * t : Nat) : Int)) (ME e I J) Q := by
  obtain ⟨V, H, hN, hh, sv, io, oo, eo, qw⟩ := id hs
  have hM : Mt t ≤ 700000000 := by unfold Mt; omega
  have cn := hN.cn hM
  have rn := hN.rn hM
  unfold cl10
  refine sl hx (k := 1) (by omega) rfl ?_
  refine sl hx (k := 2) (by omega) rfl ?_
  refine x_cI (hs_mark (cq_mark cn he (ar_IR xs t 1) (ar_IR xs t 2)) (fun k hk => by unfold an_mark at hk; (repeat' split at hk) <;> cases hk <;> simp) fun c I1 e1 J1 f1 he1 h1 => ?_)
  dsimp only
  refine sl hx (k := 1) (by omega) rfl ?_
  refine sl hx (k := 2) (by omega) rfl ?_
  refine x_ob rfl (x_cI (rq_mark (f1.rn rn) (ar_IR xs t 1) (ar_IR xs t 2) _ fun I2 v' f2 ok => ?_))
  exact tB h1 ok (hF I2 J1 e1 he1 (hs.q (f1.kw f2.w)))
theorem k11 (hs : St t I) (he : e ∈ stLs) (hx : 6 * t + 6 ≤ L ∧ L ≤ 3072) (hF : ∀ (I' J' : IM) (e' : Nat), e' ∈ stLs → St (t + 1) I' → Jn 0 200 217 (i32 ((6 * t : Nat) : Int) + 6) (ME e' I' J') Q) : cl11 L xs Jn 0 200 217 (i32 ((6 * t : Nat) : Int)) (ME e I J) Q := by
  obtain ⟨V, H, hN, hh, sv, io, oo, eo, qw⟩ := id hs
  have hM : Mt t ≤ 700000000 := by unfold Mt; omega
  have cn := hN.cn hM
  have rn := hN.rn hM
  unfold cl11
  refine sl hx (k := 1) (by omega) rfl ?_
  refine x_cI (hs_height (cq_height cn he (ar_IR xs t 1)) (fun k hk => by unfold an_hgt at hk; (repeat' split at hk) <;> cases hk <;> simp) fun c I1 e1 J1 f1 he1 h1 => ?_)
  dsimp only
  refine sl hx (k := 1) (by omega) rfl ?_
  refine x_ob rfl (x_cI (rq_height (f1.rn rn) (ar_IR xs t 1) _ fun I2 v' f2 ok => ?_))
  exact tB h1 ok (hF I2 J1 e1 he1 (hs.q (f1.kw f2.w)))
theorem k12 (hs : St t I) (he : e ∈ stLs) (hx : 6 * t + 6 ≤ L ∧ L ≤ 3072) (hF : ∀ (I' J' : IM) (e' : Nat), e' ∈ stLs → St (t + 1) I' → Jn 0 200 217 (i32 ((6 * t : Nat) : Int) + 6) (ME e' I' J') Q) : cl12 L xs Jn 0 200 217 (i32 ((6 * t : Nat) : Int)) (ME e I J) Q := by
  obtain ⟨V, H, hN, hh, sv, io, oo, eo, qw⟩ := id hs
  have hM : Mt t ≤ 700000000 := by unfold Mt; omega
  have cn := hN.cn hM
  have rn := hN.rn hM
  unfold cl12
  refine sl hx (k := 1) (by omega) rfl ?_
  refine x_cI (hs_whyNone (cq_whyNone cn he (ar_IR xs t 1)) (fun k hk => by unfold an_why at hk; (repeat' split at hk) <;> cases hk <;> simp) fun c I1 e1 J1 f1 he1 h1 => ?_)
  dsimp only
  refine sl hx (k := 1) (by omega) rfl ?_
  refine x_ob rfl (x_cI (rq_whyNone (f1.rn rn) (ar_IR xs t 1) _ fun I2 v' f2 ok => ?_))
  exact tB h1 ok (hF I2 J1 e1 he1 (hs.q (f1.kw f2.w)))
theorem k13 (hs : St t I) (he : e ∈ stLs) (hx : 6 * t + 6 ≤ L ∧ L ≤ 3072) (hF : ∀ (I' J' : IM) (e' : Nat), e' ∈ stLs → St (t + 1) I' → Jn 0 200 217 (i32 ((6 * t : Nat) : Int) + 6) (ME e' I' J') Q) : cl13 L xs Jn 0 200 217 (i32 ((6 * t : Nat) : Int)) (ME e I J) Q := by
  obtain ⟨V, H, hN, hh, sv, io, oo, eo, qw⟩ := id hs
  have hM : Mt t ≤ 700000000 := by unfold Mt; omega
  have cn := hN.cn hM
  have rn := hN.rn hM
  unfold cl13
  refine sl hx (k := 1) (by omega) rfl ?_
  refine sl hx (k := 2) (by omega) rfl ?_
  refine x_cI (hs_sight (cq_sight cn he (ar_IR xs t 1) (ar_IR xs t 2)) (fun k hk => by unfold an_sight at hk; (repeat' split at hk) <;> cases hk <;> simp) fun c I1 e1 J1 f1 he1 h1 => ?_)
  dsimp only
  refine sl hx (k := 1) (by omega) rfl ?_
  refine sl hx (k := 2) (by omega) rfl ?_
  refine x_ob rfl (x_cI (rq_sight (f1.rn rn) (ar_IR xs t 1) (ar_IR xs t 2) _ fun I2 v' f2 ok => ?_))
  exact tB h1 ok (hF I2 J1 e1 he1 (hs.q (f1.kw f2.w)))
theorem k14 (hs : St t I) (he : e ∈ stLs) (hx : 6 * t + 6 ≤ L ∧ L ≤ 3072) (hF : ∀ (I' J' : IM) (e' : Nat), e' ∈ stLs → St (t + 1) I' → Jn 0 200 217 (i32 ((6 * t : Nat) : Int) + 6) (ME e' I' J') Q) : cl14 L xs Jn 0 200 217 (i32 ((6 * t : Nat) : Int)) (ME e I J) Q := by
  obtain ⟨V, H, hN, hh, sv, io, oo, eo, qw⟩ := id hs
  have hM : Mt t ≤ 700000000 := by unfold Mt; omega
  have cn := hN.cn hM
  have rn := hN.rn hM
  unfold cl14
  refine sl hx (k := 1) (by omega) rfl ?_
  refine sl hx (k := 2) (by omega) rfl ?_
  refine x_cI (hs_rise (cq_rise cn he (ar_IR xs t 1) (ar_IR xs t 2)) (fun k hk => by unfold an_rise at hk; (repeat' split at hk) <;> cases hk <;> simp) fun c I1 e1 J1 f1 he1 h1 => ?_)
  dsimp only
  refine sl hx (k := 1) (by omega) rfl ?_
  refine sl hx (k := 2) (by omega) rfl ?_
  refine x_ob rfl (x_cI (rq_rise (f1.rn rn) (ar_IR xs t 1) (ar_IR xs t 2) _ fun I2 v' f2 ok => ?_))
  exact tB h1 ok (hF I2 J1 e1 he1 (hs.q (f1.kw f2.w)))
theorem k15 (hs : St t I) (he : e ∈ stLs) (hx : 6 * t + 6 ≤ L ∧ L ≤ 3072) (hF : ∀ (I' J' : IM) (e' : Nat), e' ∈ stLs → St (t + 1) I' → Jn 0 200 217 (i32 ((6 * t : Nat) : Int) + 6) (ME e' I' J') Q) : cl15 L xs Jn 0 200 217 (i32 ((6 * t : Nat) : Int)) (ME e I J) Q := by
  obtain ⟨V, H, hN, hh, sv, io, oo, eo, qw⟩ := id hs
  have hM : Mt t ≤ 700000000 := by unfold Mt; omega
  have cn := hN.cn hM
  have rn := hN.rn hM
  unfold cl15
  refine sl hx (k := 1) (by omega) rfl ?_
  refine sl hx (k := 2) (by omega) rfl ?_
  refine sl hx (k := 3) (by omega) rfl ?_
  refine x_cI (hs_edge (cq_edge cn he (ar_IR xs t 1) (ar_IR xs t 2) (ar_IR xs t 3)) (fun k hk => by unfold an_edge at hk; (repeat' split at hk) <;> cases hk <;> simp) fun c I1 e1 J1 f1 he1 h1 => ?_)
  dsimp only
  refine sl hx (k := 1) (by omega) rfl ?_
  refine sl hx (k := 2) (by omega) rfl ?_
  refine sl hx (k := 3) (by omega) rfl ?_
  refine x_ob rfl (x_cI (rq_edge (f1.rn rn) (ar_IR xs t 1) (ar_IR xs t 2) (ar_IR xs t 3) _ fun I2 v' f2 ok => ?_))
  exact tB h1 ok (hF I2 J1 e1 he1 (hs.q (f1.kw f2.w)))
theorem k16 (hs : St t I) (he : e ∈ stLs) (hx : 6 * t + 6 ≤ L ∧ L ≤ 3072) (hF : ∀ (I' J' : IM) (e' : Nat), e' ∈ stLs → St (t + 1) I' → Jn 0 200 217 (i32 ((6 * t : Nat) : Int) + 6) (ME e' I' J') Q) : cl16 L xs Jn 0 200 217 (i32 ((6 * t : Nat) : Int)) (ME e I J) Q := by
  obtain ⟨V, H, hN, hh, sv, io, oo, eo, qw⟩ := id hs
  have hM : Mt t ≤ 700000000 := by unfold Mt; omega
  have cn := hN.cn hM
  have rn := hN.rn hM
  unfold cl16
  refine sl hx (k := 1) (by omega) rfl ?_
  refine sl hx (k := 2) (by omega) rfl ?_
  refine x_cI (hs_along (cq_along cn he (ar_IR xs t 1) (ar_IR xs t 2)) (fun k hk => by unfold an_along at hk; (repeat' split at hk) <;> cases hk <;> simp) fun c I1 e1 J1 f1 he1 h1 => ?_)
  dsimp only
  refine sl hx (k := 1) (by omega) rfl ?_
  refine sl hx (k := 2) (by omega) rfl ?_
  refine x_ob rfl (x_cI (rq_along (f1.rn rn) (ar_IR xs t 1) (ar_IR xs t 2) _ fun I2 v' f2 ok => ?_))
  exact tB h1 ok (hF I2 J1 e1 he1 (hs.q (f1.kw f2.w)))
theorem k17 (hs : St t I) (he : e ∈ stLs) (hx : 6 * t + 6 ≤ L ∧ L ≤ 3072) (hF : ∀ (I' J' : IM) (e' : Nat), e' ∈ stLs → St (t + 1) I' → Jn 0 200 217 (i32 ((6 * t : Nat) : Int) + 6) (ME e' I' J') Q) : cl17 L xs Jn 0 200 217 (i32 ((6 * t : Nat) : Int)) (ME e I J) Q := by
  obtain ⟨V, H, hN, hh, sv, io, oo, eo, qw⟩ := id hs
  have hM : Mt t ≤ 700000000 := by unfold Mt; omega
  have cn := hN.cn hM
  have rn := hN.rn hM
  unfold cl17
  refine sl hx (k := 1) (by omega) rfl ?_
  refine sl hx (k := 2) (by omega) rfl ?_
  refine x_cI (hs_loop (cq_loop cn (ar_IR xs t 1) (ar_IR xs t 2)) (fun k hk => by unfold an_loop at hk; (repeat' split at hk) <;> cases hk <;> simp) fun c I1 e1 J1 f1 he1 h1 => ?_)
  dsimp only
  refine sl hx (k := 1) (by omega) rfl ?_
  refine sl hx (k := 2) (by omega) rfl ?_
  refine x_ob rfl (x_cI (rq_loop (f1.rn rn) (ar_IR xs t 1) (ar_IR xs t 2) _ fun I2 v' f2 ok => ?_))
  exact tB h1 ok (hF I2 J1 e1 he1 (hs.q (f1.kw f2.w)))
theorem k18 (hs : St t I) (he : e ∈ stLs) (hx : 6 * t + 6 ≤ L ∧ L ≤ 3072) (hF : ∀ (I' J' : IM) (e' : Nat), e' ∈ stLs → St (t + 1) I' → Jn 0 200 217 (i32 ((6 * t : Nat) : Int) + 6) (ME e' I' J') Q) : cl18 L xs Jn 0 200 217 (i32 ((6 * t : Nat) : Int)) (ME e I J) Q := by
  obtain ⟨V, H, hN, hh, sv, io, oo, eo, qw⟩ := id hs
  have hM : Mt t ≤ 700000000 := by unfold Mt; omega
  have cn := hN.cn hM
  have rn := hN.rn hM
  unfold cl18
  refine sl hx (k := 1) (by omega) rfl ?_
  refine sl hx (k := 2) (by omega) rfl ?_
  refine x_cI (hs_loopMark (cq_loopMark cn (ar_IR xs t 1) (ar_IR xs t 2)) (fun k hk => by unfold an_lm at hk; (repeat' split at hk) <;> cases hk <;> simp) fun c I1 e1 J1 f1 he1 h1 => ?_)
  dsimp only
  refine sl hx (k := 1) (by omega) rfl ?_
  refine sl hx (k := 2) (by omega) rfl ?_
  refine x_ob rfl (x_cI (rq_loopMark (f1.rn rn) (ar_IR xs t 1) (ar_IR xs t 2) _ fun I2 v' f2 ok => ?_))
  exact tB h1 ok (hF I2 J1 e1 he1 (hs.q (f1.kw f2.w)))
theorem k23 (hs : St t I) (he : e ∈ stLs) (hx : 6 * t + 6 ≤ L ∧ L ≤ 3072) (hF : ∀ (I' J' : IM) (e' : Nat), e' ∈ stLs → St (t + 1) I' → Jn 0 200 217 (i32 ((6 * t : Nat) : Int) + 6) (ME e' I' J') Q) : cl23 L xs Jn 0 200 217 (i32 ((6 * t : Nat) : Int)) (ME e I J) Q := by
  obtain ⟨V, H, hN, hh, sv, io, oo, eo, qw⟩ := id hs
  have hM : Mt t ≤ 700000000 := by unfold Mt; omega
  have cn := hN.cn hM
  have rn := hN.rn hM
  unfold cl23
  refine sl hx (k := 1) (by omega) rfl ?_
  refine x_cI (hs_tension (cq_tension cn he (ar_IR xs t 1)) (fun k hk => by unfold an_ten at hk; (repeat' split at hk) <;> cases hk <;> simp) fun c I1 e1 J1 f1 he1 h1 => ?_)
  dsimp only
  refine sl hx (k := 1) (by omega) rfl ?_
  refine x_ob rfl (x_cI (rq_tension (f1.rn rn) (ar_IR xs t 1) _ fun I2 v' f2 ok => ?_))
  exact tB h1 ok (hF I2 J1 e1 he1 (hs.q (f1.kw f2.w)))
theorem k25 (hs : St t I) (he : e ∈ stLs) (hx : 6 * t + 6 ≤ L ∧ L ≤ 3072) (hF : ∀ (I' J' : IM) (e' : Nat), e' ∈ stLs → St (t + 1) I' → Jn 0 200 217 (i32 ((6 * t : Nat) : Int) + 6) (ME e' I' J') Q) : cl25 L xs Jn 0 200 217 (i32 ((6 * t : Nat) : Int)) (ME e I J) Q := by
  obtain ⟨V, H, hN, hh, sv, io, oo, eo, qw⟩ := id hs
  have hM : Mt t ≤ 700000000 := by unfold Mt; omega
  have cn := hN.cn hM
  have rn := hN.rn hM
  unfold cl25
  refine sl hx (k := 1) (by omega) rfl ?_
  refine sl hx (k := 2) (by omega) rfl ?_
  refine x_cI (hs_neighbour (cq_neighbour cn he (ar_IR xs t 1) (ar_IR xs t 2)) (fun k hk => by unfold an_nb at hk; (repeat' split at hk) <;> cases hk <;> simp) fun c I1 e1 J1 f1 he1 h1 => ?_)
  dsimp only
  refine sl hx (k := 1) (by omega) rfl ?_
  refine sl hx (k := 2) (by omega) rfl ?_
  refine x_ob rfl (x_cI (rq_neighbour (f1.rn rn) (ar_IR xs t 1) (ar_IR xs t 2) _ fun I2 v' f2 ok => ?_))
  exact tB h1 ok (hF I2 J1 e1 he1 (hs.q (f1.kw f2.w)))
theorem k26 (hs : St t I) (he : e ∈ stLs) (hx : 6 * t + 6 ≤ L ∧ L ≤ 3072) (hF : ∀ (I' J' : IM) (e' : Nat), e' ∈ stLs → St (t + 1) I' → Jn 0 200 217 (i32 ((6 * t : Nat) : Int) + 6) (ME e' I' J') Q) : cl26 L xs Jn 0 200 217 (i32 ((6 * t : Nat) : Int)) (ME e I J) Q := by
  obtain ⟨V, H, hN, hh, sv, io, oo, eo, qw⟩ := id hs
  have hM : Mt t ≤ 700000000 := by unfold Mt; omega
  have cn := hN.cn hM
  have rn := hN.rn hM
  unfold cl26
  refine sl hx (k := 1) (by omega) rfl ?_
  refine x_cI (hs_loopsOf (cq_loopsOf cn he (ar_IR xs t 1)) (fun k hk => by unfold an_lo at hk; (repeat' split at hk) <;> cases hk <;> simp) fun c I1 e1 J1 f1 he1 h1 => ?_)
  dsimp only
  refine sl hx (k := 1) (by omega) rfl ?_
  refine x_ob rfl (x_cI (rq_loopsOf (f1.rn rn) (ar_IR xs t 1) _ fun I2 v' f2 ok => ?_))
  exact tB h1 ok (hF I2 J1 e1 he1 (hs.q (f1.kw f2.w)))
theorem k30 (hs : St t I) (he : e ∈ stLs) (hx : 6 * t + 6 ≤ L ∧ L ≤ 3072) (hF : ∀ (I' J' : IM) (e' : Nat), e' ∈ stLs → St (t + 1) I' → Jn 0 200 217 (i32 ((6 * t : Nat) : Int) + 6) (ME e' I' J') Q) : cl30 L xs Jn 0 200 217 (i32 ((6 * t : Nat) : Int)) (ME e I J) Q := by
  obtain ⟨V, H, hN, hh, sv, io, oo, eo, qw⟩ := id hs
  have hM : Mt t ≤ 700000000 := by unfold Mt; omega
  have cn := hN.cn hM
  have rn := hN.rn hM
  unfold cl30
  refine sl hx (k := 1) (by omega) rfl ?_
  refine x_cI (hs_closedIf (cq_closedIf cn he (ar_IR xs t 1)) (fun k hk => by unfold an_clIf at hk; (repeat' split at hk) <;> cases hk <;> simp) fun c I1 e1 J1 f1 he1 h1 => ?_)
  dsimp only
  refine sl hx (k := 1) (by omega) rfl ?_
  refine x_ob rfl (x_cI (rq_closedIf (f1.rn rn) (ar_IR xs t 1) _ fun I2 v' f2 ok => ?_))
  exact tB h1 ok (hF I2 J1 e1 he1 (hs.q (f1.kw f2.w)))
theorem k32 (hs : St t I) (he : e ∈ stLs) (hx : 6 * t + 6 ≤ L ∧ L ≤ 3072) (hF : ∀ (I' J' : IM) (e' : Nat), e' ∈ stLs → St (t + 1) I' → Jn 0 200 217 (i32 ((6 * t : Nat) : Int) + 6) (ME e' I' J') Q) : cl32 L xs Jn 0 200 217 (i32 ((6 * t : Nat) : Int)) (ME e I J) Q := by
  obtain ⟨V, H, hN, hh, sv, io, oo, eo, qw⟩ := id hs
  have hM : Mt t ≤ 700000000 := by unfold Mt; omega
  have cn := hN.cn hM
  have rn := hN.rn hM
  unfold cl32
  refine sl hx (k := 1) (by omega) rfl ?_
  refine x_cI (hs_errorWith (cq_errorWith cn he (ar_IR xs t 1)) (fun k hk => by unfold an_errW at hk; (repeat' split at hk) <;> cases hk <;> simp) fun c I1 e1 J1 f1 he1 h1 => ?_)
  dsimp only
  refine sl hx (k := 1) (by omega) rfl ?_
  refine x_ob rfl (x_cI (rq_errorWith (f1.rn rn) (ar_IR xs t 1) _ fun I2 v' f2 ok => ?_))
  exact tB h1 ok (hF I2 J1 e1 he1 (hs.q (f1.kw f2.w)))
theorem k33 (hs : St t I) (he : e ∈ stLs) (hx : 6 * t + 6 ≤ L ∧ L ≤ 3072) (hF : ∀ (I' J' : IM) (e' : Nat), e' ∈ stLs → St (t + 1) I' → Jn 0 200 217 (i32 ((6 * t : Nat) : Int) + 6) (ME e' I' J') Q) : cl33 L xs Jn 0 200 217 (i32 ((6 * t : Nat) : Int)) (ME e I J) Q := by
  obtain ⟨V, H, hN, hh, sv, io, oo, eo, qw⟩ := id hs
  have hM : Mt t ≤ 700000000 := by unfold Mt; omega
  have cn := hN.cn hM
  have rn := hN.rn hM
  unfold cl33
  refine sl hx (k := 1) (by omega) rfl ?_
  refine x_cI (hs_misfitAfter (cq_misfitAfter cn he (ar_IR xs t 1)) (fun k hk => by unfold an_misA at hk; (repeat' split at hk) <;> cases hk <;> simp) fun c I1 e1 J1 f1 he1 h1 => ?_)
  dsimp only
  refine sl hx (k := 1) (by omega) rfl ?_
  refine x_ob rfl (x_cJ (rq_misfitAfter (f1.rn rn) (ar_IR xs t 1) _ fun I2 v' f2 ok => ?_))
  exact tBJ h1 ok (hF I2 J1 e1 he1 (hs.q (f1.kw f2)))
theorem k34 (hs : St t I) (he : e ∈ stLs) (hx : 6 * t + 6 ≤ L ∧ L ≤ 3072) (hF : ∀ (I' J' : IM) (e' : Nat), e' ∈ stLs → St (t + 1) I' → Jn 0 200 217 (i32 ((6 * t : Nat) : Int) + 6) (ME e' I' J') Q) : cl34 L xs Jn 0 200 217 (i32 ((6 * t : Nat) : Int)) (ME e I J) Q := by
  obtain ⟨V, H, hN, hh, sv, io, oo, eo, qw⟩ := id hs
  have hM : Mt t ≤ 700000000 := by unfold Mt; omega
  have cn := hN.cn hM
  have rn := hN.rn hM
  unfold cl34
  refine sl hx (k := 1) (by omega) rfl ?_
  refine x_cI (hs_heightIf (cq_heightIf cn he (ar_IR xs t 1)) (fun k hk => by unfold an_hIf at hk; (repeat' split at hk) <;> cases hk <;> simp) fun c I1 e1 J1 f1 he1 h1 => ?_)
  dsimp only
  refine sl hx (k := 1) (by omega) rfl ?_
  refine x_ob rfl (x_cI (rq_heightIf (f1.rn rn) (ar_IR xs t 1) _ fun I2 v' f2 ok => ?_))
  exact tB h1 ok (hF I2 J1 e1 he1 (hs.q (f1.kw f2)))
theorem k6 (hs : St t I) (he : e ∈ stLs) (hx : 6 * t + 6 ≤ L ∧ L ≤ 3072) (hF : ∀ (I' J' : IM) (e' : Nat), e' ∈ stLs → St (t + 1) I' → Jn 0 200 217 (i32 ((6 * t : Nat) : Int) + 6) (ME e' I' J') Q) : cl6 L xs Jn 0 200 217 (i32 ((6 * t : Nat) : Int)) (ME e I J) Q := by
  obtain ⟨V, H, hN, hh, sv, io, oo, eo, qw⟩ := id hs
  have hM : Mt t ≤ 700000000 := by unfold Mt; omega
  have cn := hN.cn hM
  have rn := hN.rn hM
  unfold cl6
  refine sl hx (k := 1) (by omega) rfl ?_
  refine x_ob rfl (x_cI (cq_setting cn he (ar_IR xs t 1) _ fun I1 e1 f1 he1 => ?_))
  dsimp only [rsI]
  refine sl hx (k := 1) (by omega) rfl ?_
  refine x_ob rfl (x_cI (rq_setting (f1.rn rn) (ar_IR xs t 1) _ fun I2 f2 => ?_))
  exact x_brr rfl (hF I2 J e1 he1 (hs.q (f1.kw f2.w)))
theorem k7 (hs : St t I) (he : e ∈ stLs) (hx : 6 * t + 6 ≤ L ∧ L ≤ 3072) (hF : ∀ (I' J' : IM) (e' : Nat), e' ∈ stLs → St (t + 1) I' → Jn 0 200 217 (i32 ((6 * t : Nat) : Int) + 6) (ME e' I' J') Q) : cl7 L xs Jn 0 200 217 (i32 ((6 * t : Nat) : Int)) (ME e I J) Q := by
  obtain ⟨V, H, hN, hh, sv, io, oo, eo, qw⟩ := id hs
  have hM : Mt t ≤ 700000000 := by unfold Mt; omega
  have cn := hN.cn hM
  have rn := hN.rn hM
  unfold cl7
  refine x_ob rfl (x_cI (cq_levelError cn  _ fun I1 e1 f1 he1 => ?_))
  dsimp only [rsI]
  refine x_ob rfl (x_cI (rq_levelError (f1.rn rn)  _ fun I2 f2 => ?_))
  exact x_brr rfl (hF I2 J e1 he1 (hs.q (f1.kw f2.w)))
theorem k19 (hs : St t I) (he : e ∈ stLs) (hx : 6 * t + 6 ≤ L ∧ L ≤ 3072) (hF : ∀ (I' J' : IM) (e' : Nat), e' ∈ stLs → St (t + 1) I' → Jn 0 200 217 (i32 ((6 * t : Nat) : Int) + 6) (ME e' I' J') Q) : cl19 L xs Jn 0 200 217 (i32 ((6 * t : Nat) : Int)) (ME e I J) Q := by
  obtain ⟨V, H, hN, hh, sv, io, oo, eo, qw⟩ := id hs
  have hM : Mt t ≤ 700000000 := by unfold Mt; omega
  have cn := hN.cn hM
  have rn := hN.rn hM
  unfold cl19
  refine x_ob rfl (x_cI (cq_worst cn  _ fun I1 e1 f1 he1 => ?_))
  dsimp only [rsI]
  refine x_ob rfl (x_cI (rq_worst (f1.rn rn)  _ fun I2 f2 => ?_))
  exact x_brr rfl (hF I2 J e1 he1 (hs.q (f1.kw f2.w)))
theorem k20 (hs : St t I) (he : e ∈ stLs) (hx : 6 * t + 6 ≤ L ∧ L ≤ 3072) (hF : ∀ (I' J' : IM) (e' : Nat), e' ∈ stLs → St (t + 1) I' → Jn 0 200 217 (i32 ((6 * t : Nat) : Int) + 6) (ME e' I' J') Q) : cl20 L xs Jn 0 200 217 (i32 ((6 * t : Nat) : Int)) (ME e I J) Q := by
  obtain ⟨V, H, hN, hh, sv, io, oo, eo, qw⟩ := id hs
  have hM : Mt t ≤ 700000000 := by unfold Mt; omega
  have cn := hN.cn hM
  have rn := hN.rn hM
  unfold cl20
  refine x_ob rfl (x_cI (cq_suspect cn  _ fun I1 e1 f1 he1 => ?_))
  dsimp only [rsI]
  refine x_ob rfl (x_cI (rq_suspect (f1.rn rn)  _ fun I2 f2 => ?_))
  exact x_brr rfl (hF I2 J e1 he1 (hs.q (f1.kw f2.w)))
theorem k21 (hs : St t I) (he : e ∈ stLs) (hx : 6 * t + 6 ≤ L ∧ L ≤ 3072) (hF : ∀ (I' J' : IM) (e' : Nat), e' ∈ stLs → St (t + 1) I' → Jn 0 200 217 (i32 ((6 * t : Nat) : Int) + 6) (ME e' I' J') Q) : cl21 L xs Jn 0 200 217 (i32 ((6 * t : Nat) : Int)) (ME e I J) Q := by
  obtain ⟨V, H, hN, hh, sv, io, oo, eo, qw⟩ := id hs
  have hM : Mt t ≤ 700000000 := by unfold Mt; omega
  have cn := hN.cn hM
  have rn := hN.rn hM
  unfold cl21
  refine x_ob rfl (x_cI (cq_outlier cn  _ fun I1 e1 f1 he1 => ?_))
  dsimp only [rsI]
  refine x_ob rfl (x_cI (rq_outlier (f1.rn rn)  _ fun I2 f2 => ?_))
  exact x_brr rfl (hF I2 J e1 he1 (hs.q (f1.kw f2.w)))
theorem k24 (hs : St t I) (he : e ∈ stLs) (hx : 6 * t + 6 ≤ L ∧ L ≤ 3072) (hF : ∀ (I' J' : IM) (e' : Nat), e' ∈ stLs → St (t + 1) I' → Jn 0 200 217 (i32 ((6 * t : Nat) : Int) + 6) (ME e' I' J') Q) : cl24 L xs Jn 0 200 217 (i32 ((6 * t : Nat) : Int)) (ME e I J) Q := by
  obtain ⟨V, H, hN, hh, sv, io, oo, eo, qw⟩ := id hs
  have hM : Mt t ≤ 700000000 := by unfold Mt; omega
  have cn := hN.cn hM
  have rn := hN.rn hM
  unfold cl24
  refine x_ob rfl (x_cI (cq_tensest cn  _ fun I1 e1 f1 he1 => ?_))
  dsimp only [rsI]
  refine x_ob rfl (x_cI (rq_tensest (f1.rn rn)  _ fun I2 f2 => ?_))
  exact x_brr rfl (hF I2 J e1 he1 (hs.q (f1.kw f2.w)))
theorem k27 (hs : St t I) (he : e ∈ stLs) (hx : 6 * t + 6 ≤ L ∧ L ≤ 3072) (hF : ∀ (I' J' : IM) (e' : Nat), e' ∈ stLs → St (t + 1) I' → Jn 0 200 217 (i32 ((6 * t : Nat) : Int) + 6) (ME e' I' J') Q) : cl27 L xs Jn 0 200 217 (i32 ((6 * t : Nat) : Int)) (ME e I J) Q := by
  obtain ⟨V, H, hN, hh, sv, io, oo, eo, qw⟩ := id hs
  have hM : Mt t ≤ 700000000 := by unfold Mt; omega
  have cn := hN.cn hM
  have rn := hN.rn hM
  unfold cl27
  refine x_ob rfl (x_cI (cq_bridges cn  _ fun I1 e1 f1 he1 => ?_))
  dsimp only [rsI]
  refine x_ob rfl (x_cI (rq_bridges (f1.rn rn)  _ fun I2 f2 => ?_))
  exact x_brr rfl (hF I2 J e1 he1 (hs.q (f1.kw f2.w)))
theorem k31 (hs : St t I) (he : e ∈ stLs) (hx : 6 * t + 6 ≤ L ∧ L ≤ 3072) (hF : ∀ (I' J' : IM) (e' : Nat), e' ∈ stLs → St (t + 1) I' → Jn 0 200 217 (i32 ((6 * t : Nat) : Int) + 6) (ME e' I' J') Q) : cl31 L xs Jn 0 200 217 (i32 ((6 * t : Nat) : Int)) (ME e I J) Q := by
  obtain ⟨V, H, hN, hh, sv, io, oo, eo, qw⟩ := id hs
  have hM : Mt t ≤ 700000000 := by unfold Mt; omega
  have cn := hN.cn hM
  have rn := hN.rn hM
  unfold cl31
  refine x_ob rfl (x_cI (cq_bestStrike cn he  _ fun I1 e1 f1 he1 => ?_))
  dsimp only [rsI]
  refine x_ob rfl (x_cI (rq_bestStrike (f1.rn rn)  _ fun I2 f2 => ?_))
  exact x_brr rfl (hF I2 J e1 he1 (hs.q (f1.kw f2.w)))
theorem k35 (hs : St t I) (he : e ∈ stLs) (hx : 6 * t + 6 ≤ L ∧ L ≤ 3072) (hF : ∀ (I' J' : IM) (e' : Nat), e' ∈ stLs → St (t + 1) I' → Jn 0 200 217 (i32 ((6 * t : Nat) : Int) + 6) (ME e' I' J') Q) : cl35 L xs Jn 0 200 217 (i32 ((6 * t : Nat) : Int)) (ME e I J) Q := by
  obtain ⟨V, H, hN, hh, sv, io, oo, eo, qw⟩ := id hs
  have hM : Mt t ≤ 700000000 := by unfold Mt; omega
  have cn := hN.cn hM
  have rn := hN.rn hM
  unfold cl35
  refine x_ob rfl (x_cI (cq_leastLimit cn  _ fun I1 e1 f1 he1 => ?_))
  dsimp only [rsI]
  refine x_ob rfl (x_cI (rq_leastLimit (f1.rn rn)  _ fun I2 f2 => ?_))
  exact x_brr rfl (hF I2 J e1 he1 (hs.q (f1.kw f2.w)))
theorem k5 (hs : St t I) (he : e ∈ stLs) (hx : 6 * t + 6 ≤ L ∧ L ≤ 3072) (hF : ∀ (I' J' : IM) (e' : Nat), e' ∈ stLs → St (t + 1) I' → Jn 0 200 217 (i32 ((6 * t : Nat) : Int) + 6) (ME e' I' J') Q) : cl5 L xs Jn 0 200 217 (i32 ((6 * t : Nat) : Int)) (ME e I J) Q := by
  obtain ⟨V, H, hN, hh, sv, io, oo, eo, qw⟩ := id hs
  have hM : Mt t ≤ 700000000 := by unfold Mt; omega
  have cn := hN.cn hM
  have rn := hN.rn hM
  unfold cl5
  obtain ⟨hd, n, Ls, Lr, hI, hR, _⟩ := hh
  refine sl hx (k := 1) (by omega) rfl ?_
  refine x_ob rfl (x_cI (cq_count cn hI (ar_IR xs t 1) _ fun I1 e1 f1 he1 => ?_))
  dsimp only [rsI]
  refine sl hx (k := 1) (by omega) rfl ?_
  refine x_ob rfl (x_cI (rq_count (f1.rn rn) (n := n) (by rw [f1.1 200 (by omega)]; exact hR.1) (ar_IR xs t 1) _ fun I2 f2 => ?_))
  exact x_brr rfl (hF I2 J e1 he1 (hs.q (f1.kw f2.w)))
theorem k22 (hs : St t I) (he : e ∈ stLs) (hx : 6 * t + 6 ≤ L ∧ L ≤ 3072) (hF : ∀ (I' J' : IM) (e' : Nat), e' ∈ stLs → St (t + 1) I' → Jn 0 200 217 (i32 ((6 * t : Nat) : Int) + 6) (ME e' I' J') Q) : cl22 L xs Jn 0 200 217 (i32 ((6 * t : Nat) : Int)) (ME e I J) Q := by
  obtain ⟨V, H, hN, hh, sv, io, oo, eo, qw⟩ := id hs
  have hM : Mt t ≤ 700000000 := by unfold Mt; omega
  have cn := hN.cn hM
  have rn := hN.rn hM
  unfold cl22
  refine x_ob rfl (x_cJ (cq_misfit cn _ fun I1 e1 f1 he1 => ?_))
  dsimp only [rsJ]
  refine x_ob rfl (x_cJ (rq_misfit (f1.rn rn) _ fun I2 f2 => ?_))
  exact x_brr (lg_cmp_self _) (hF I2 J e1 he1 (hs.q (f1.kw f2.w)))
theorem k3 (hs : St t I) (he : e ∈ stLs) (hx : 6 * t + 6 ≤ L ∧ L ≤ 3072) (hF : ∀ (I' J' : IM) (e' : Nat), e' ∈ stLs → St (t + 1) I' → Jn 0 200 217 (i32 ((6 * t : Nat) : Int) + 6) (ME e' I' J') Q) : cl3 L xs Jn 0 200 217 (i32 ((6 * t : Nat) : Int)) (ME e I J) Q := by
  obtain ⟨V, H, hN, hh, sv, io, oo, eo, qw⟩ := id hs
  have hM : Mt t ≤ 700000000 := by unfold Mt; omega
  have cn := hN.cn hM
  have rn := hN.rn hM
  unfold cl3
  refine x_ob rfl (x_cI (cq_errorCode cn.2.2.2.2.2.2 he _ fun I1 e1 f1 he1 => ?_))
  dsimp only [rsI]
  refine x_ob rfl (x_cI (rq_errorCode _ fun I2 f2 _ => ?_))
  refine x_brr ?_ (hF I2 J e1 he1 (hs.q (f1.kw f2.w)))
  rw [f1.1 200 (by omega)]
  exact congrArg i32 eo.1
theorem k4 (hs : St t I) (he : e ∈ stLs) (hx : 6 * t + 6 ≤ L ∧ L ≤ 3072) (hF : ∀ (I' J' : IM) (e' : Nat), e' ∈ stLs → St (t + 1) I' → Jn 0 200 217 (i32 ((6 * t : Nat) : Int) + 6) (ME e' I' J') Q) : cl4 L xs Jn 0 200 217 (i32 ((6 * t : Nat) : Int)) (ME e I J) Q := by
  obtain ⟨V, H, hN, hh, sv, io, oo, eo, qw⟩ := id hs
  have hM : Mt t ≤ 700000000 := by unfold Mt; omega
  have cn := hN.cn hM
  have rn := hN.rn hM
  unfold cl4
  refine x_ob rfl (x_cI (cq_errorOffset cn.2.2.2.2.2.2 he _ fun I1 e1 f1 he1 => ?_))
  dsimp only [rsI]
  refine x_ob rfl (x_cI (rq_errorOffset _ fun I2 f2 _ => ?_))
  refine x_brr ?_ (hF I2 J e1 he1 (hs.q (f1.kw f2.w)))
  rw [f1.1 200 (by omega)]
  exact congrArg i32 eo.2
theorem k50 (hs : St t I) (he : e ∈ stLs) (hx : 6 * t + 6 ≤ L ∧ L ≤ 3072) (hF : ∀ (I' J' : IM) (e' : Nat), e' ∈ stLs → St (t + 1) I' → Jn 0 200 217 (i32 ((6 * t : Nat) : Int) + 6) (ME e' I' J') Q) : cl50 L xs Jn 0 200 217 (i32 ((6 * t : Nat) : Int)) (ME e I J) Q := by
  obtain ⟨V, H, hN, hh, sv, io, oo, eo, qw⟩ := id hs
  have hM : Mt t ≤ 700000000 := by unfold Mt; omega
  have cn := hN.cn hM
  have rn := hN.rn hM
  unfold cl50
  obtain ⟨l, T1, T2, hl⟩ := oo
  refine sl hx (k := 1) (by omega) rfl ?_
  refine x_ob rfl (x_cI (cq_outputByte cn.2.2.2.2.2.2 T1 hl he (ar_IR xs t 1) _ fun I1 e1 f1 he1 => ?_))
  dsimp only [rsI]
  refine sl hx (k := 1) (by omega) rfl ?_
  refine x_ob rfl (x_cI (rq_outputByte (l := l) ⟨by rw [f1.1 200 (by omega)]; exact T2.1, fun k hk => by rw [f1.1 216 (by omega)]; exact T2.2 k hk⟩ hl (ar_IR xs t 1) _ fun I2 f2 _ => ?_))
  exact x_brr rfl (hF I2 J e1 he1 (hs.q (f1.kw f2.w)))
theorem k28 (hs : St t I) (he : e ∈ stLs) (hx : 6 * t + 6 ≤ L ∧ L ≤ 3072) (hF : ∀ (I' J' : IM) (e' : Nat), e' ∈ stLs → St (t + 1) I' → Jn 0 200 217 (i32 ((6 * t : Nat) : Int) + 6) (ME e' I' J') Q) : cl28 L xs Jn 0 200 217 (i32 ((6 * t : Nat) : Int)) (ME e I J) Q := by
  obtain ⟨V, H, hN, hh, sv, io, oo, eo, qw⟩ := id hs
  have hM : Mt t ≤ 700000000 := by unfold Mt; omega
  have cn := hN.cn hM
  have rn := hN.rn hM
  unfold cl28
  refine x_ob rfl (cq_meanSwings cn _ fun I1 e1 f1 he1 => x_ob rfl (rq_meanSwings (f1.rn rn) _ fun I2 f2 => ?_))
  have g := hF I2 J e1 he1 (hs.q (f1.kw f2.w))
  exact x_br (fun _ => g) (fun h => x_br (fun h2 => absurd h2 h) (fun _ => x_br (fun h2 => absurd h2 h) (fun _ => g)))
theorem k29 (hs : St t I) (he : e ∈ stLs) (hx : 6 * t + 6 ≤ L ∧ L ≤ 3072) (hF : ∀ (I' J' : IM) (e' : Nat), e' ∈ stLs → St (t + 1) I' → Jn 0 200 217 (i32 ((6 * t : Nat) : Int) + 6) (ME e' I' J') Q) : cl29 L xs Jn 0 200 217 (i32 ((6 * t : Nat) : Int)) (ME e I J) Q := by
  obtain ⟨V, H, hN, hh, sv, io, oo, eo, qw⟩ := id hs
  have hM : Mt t ≤ 700000000 := by unfold Mt; omega
  have cn := hN.cn hM
  have rn := hN.rn hM
  unfold cl29
  have nn : vf_n64 (FP.f2d (csh V)) := by
    unfold csh
    have n40 := nL40 hN.1
    have nc := ncl_nL V (vS V 3)
    split
    · exact nan_one
    · rename_i h0
      obtain ⟨l, hl⟩ : ∃ l, nL V = l + 1 := ⟨nL V - 1, by omega⟩
      have := (nan_share (ncl V (vS V 3) 144) (by omega) l (by omega)).2
      rw [hl]
      rw [show (((l + 1 : Nat) : Int)) = (l : Int) + 1 by omega]
      exact this
  refine x_ob rfl (cq_closedShare cn _ fun I1 e1 f1 he1 => ⟨nn, x_ob rfl (rq_closedShare (f1.rn rn) _ fun I2 f2 => ⟨nn, ?_⟩)⟩)
  have g := hF I2 J e1 he1 (hs.q (f1.kw f2.w))
  exact x_br (fun _ => g) (fun h => x_br (fun h2 => absurd h2 h) (fun _ => x_br (fun h2 => absurd h2 h) (fun _ => g)))
theorem k53 (hs : St t I) (he : e ∈ stLs) (hx : 6 * t + 6 ≤ L ∧ L ≤ 3072) (hF : ∀ (I' J' : IM) (e' : Nat), e' ∈ stLs → St (t + 1) I' → Jn 0 200 217 (i32 ((6 * t : Nat) : Int) + 6) (ME e' I' J') Q) : cl53 L xs Jn 0 200 217 (i32 ((6 * t : Nat) : Int)) (ME e I J) Q := by
  unfold cl53
  obtain ⟨V, H, hN, _⟩ := id hs
  exact hF I J e he (hs.q ((Cf.refl hN.2.2.2.2.2.2.1).kw (Rfr.refl I).w))
end Law64
