section Law64c
variable {e t L : Nat} {I I1 I2 J : IM} {Q : Post} {xs : Nat → Int32} {Jn : LT} {V : Vw} {H : Hw} {a b c d s v x : Int}
theorem Cg.rn (f : Cg I I1) (h : Rn I V H) : Rn I1 V H := ⟨h.1, h.2.1, h.2.2.1, h.2.2.2.1.keep (f.1 201 (by omega)), h.2.2.2.2.keep (f.1 201 (by omega))⟩
theorem HR.cg {n : Nat} {Lr : Nat → Int → Int} (f : Cg I I1) (h : HR I n Lr) : HR I1 n Lr := h.keep (by rw [f.1 200 (by omega)]) (f.1 206 (by omega))
theorem Good_sw (hG : Good V) (hs : 0 ≤ s ∧ s < vn V) (hd : -9999 ≤ d ∧ d ≤ 9999) : Good (swV V s d) := by
  obtain ⟨g0, g1, g2, g3, g4, g5, g6, g7, g8, g9, g10, g11⟩ := hG
  have gs := g11 s hs.1 hs.2
  refine ⟨g0, g1, g2, g3, g4, g5, g6, g7, g8, g9, g10, fun s' a b => ?_⟩
  have g := g11 s' a b
  have e : ∀ f, vG (swV V s d) f s' = if f = 2 ∧ s' = s then 1 - vG V 2 s else if f = 3 ∧ s' = s then d else vG V f s' := fun _ => rfl
  rw [e 0, e 1, e 2, e 3, e 4, e 5]
  by_cases h : s' = s
  · subst h
    simp
    refine ⟨g.1, g.2.1, g.2.2.1, by omega, hd, g.2.2.2.2.2.1, g.2.2.2.2.2.2⟩
  · simp [h]
    exact g
theorem SW_ad : SW V (adV V a b c d x) := ⟨rfl, fun _ _ _ => ⟨rfl, rfl⟩⟩
theorem SW_st {f : Nat} : SW V (stG V f s v) := ⟨rfl, fun _ _ _ => ⟨rfl, rfl⟩⟩
theorem SW_sw : SW V (swV V s d) := ⟨rfl, fun _ _ _ => ⟨rfl, rfl⟩⟩
theorem SW_ss : SW V (stS V a b) := ⟨rfl, fun _ _ _ => ⟨rfl, rfl⟩⟩
theorem SW_te : SW V (teV V x) := ⟨rfl, fun _ _ _ => ⟨rfl, rfl⟩⟩
theorem Good_sS (hG : Good V) (ha : 0 ≤ a ∧ a < 4) (hx : seL a ≤ x ∧ x ≤ seU a) : Good (stS V a x) := by
  have := Good_set (V := V) (v := x) (w := a.toNat) hG (by omega) (by rw [Int.toNat_of_nonneg ha.1]; exact hx)
  rwa [Int.toNat_of_nonneg ha.1] at this
theorem GoodH_bnI {m : Nat} (h : GoodH m H) {k : Int} (hk : 0 ≤ k ∧ k < m) : GoodH m (bnH H k v) := by
  have := GoodH_bn (v := v) h (k := k.toNat) (by omega)
  rwa [Int.toNat_of_nonneg hk.1] at this
theorem HB_fr {m : Nat} {M : Int} (h : HB m H M) : HB m (frH H a) M := fun k h0 h1 h2 => h k h0 h1 h2
/-- a change, in both -/
theorem St.c2 {hd n : Nat} {Ls : Nat → Vw × Hw} {Lr : Nat → Int → Int} {row : Int → Int} {V' : Vw} {H' : Hw} (hN : Nw I V H (Mt t)) (hI : HI I hd n Ls) (hR : HR I n Lr) (hj : ∀ j, j < n → GoodH (vm V) (Ls j).2 ∧ HB (vm V) (Ls j).2 (Mt t) ∧ SW V (Ls j).1 ∧ Rrw (fun _ => Lr j) 0 0 (Ls j).1 ∧ Rhr (fun _ => Lr j) 0 0 (vm V) (Ls j).2)
    (sv : Svd I V (Mt t)) (io : InO I) (oo : OuO I) (eo : ErO I) (qw : Qw I) (g : Cg I I1 ∧ Rst I1 8 V' ∧ Rht I1 8 H' ∧ HI I1 ((hd + 1) % 10) (min (n + 1) 10) (pushL (V, H) Ls))
    (g2 : Rg I1 I2) (w1 : Rrw I2 201 0 V') (w2 : Rhr I2 201 0 (vm V') H') (w3 : ∀ k : Int, 0 ≤ k → k < 308 → row k = I1 201 k) (w4 : HR I2 (min (n + 1) 10) (pushR row Lr))
    (hG : Good V') (hGH : GoodH (vm V') H') (hB : HB (vm V') H' (Mt (t + 1))) (hw : SW V V') : St (t + 1) I2 :=
  St.c hN ⟨hI, hR, hj⟩ sv io oo eo qw g.1 g.2.1 g.2.2.1 g.2.2.2 g2 w1 w2 w3 w4 hG hGH hB hw
theorem k36 (hs : St t I) (he : e ∈ stLs) (hx : 6 * t + 6 ≤ L ∧ L ≤ 3072) (hF : ∀ (I' J' : IM) (e' : Nat), e' ∈ stLs → St (t + 1) I' → Jn 0 200 217 (i32 ((6 * t : Nat) : Int) + 6) (ME e' I' J') Q) : cl36 L xs Jn 0 200 217 (i32 ((6 * t : Nat) : Int)) (ME e I J) Q := by
  obtain ⟨V, H, hN, ⟨hd, n, Ls, Lr, hI, hR, hj⟩, sv, io, oo, eo, qw⟩ := id hs
  have hM : Mt t ≤ 700000000 := by unfold Mt; omega
  have m := Mt_le t
  have cn := hN.cn hM
  have rn := hN.rn hM
  unfold cl36
  refine sl hx (k := 1) (by omega) rfl ?_
  refine sl hx (k := 2) (by omega) rfl ?_
  refine sl hx (k := 3) (by omega) rfl ?_
  refine sl hx (k := 4) (by omega) rfl ?_
  refine sl hx (k := 5) (by omega) rfl ?_
  refine x_cI (hs_addSight (cc_addSight cn hI he (ar_IR xs t 1) (ar_IR xs t 2) (ar_IR xs t 3) (ar_IR xs t 4) (ar_IR xs t 5)) (fun k hk => by unfold an_add at hk; (repeat' split at hk) <;> cases hk <;> simp) (fun c I1 e1 J1 he1 h1 g gx => ?_) he)
  dsimp only
  refine sl hx (k := 1) (by omega) rfl ?_
  refine sl hx (k := 2) (by omega) rfl ?_
  refine sl hx (k := 3) (by omega) rfl ?_
  refine sl hx (k := 4) (by omega) rfl ?_
  refine sl hx (k := 5) (by omega) rfl ?_
  cases hr : an_add V (ar xs t 1) (ar xs t 2) (ar xs t 3) (ar xs t 4) (ar xs t 5) with
  | inl v =>
    have G := g v hr
    have q : areM V (ar xs t 1) (ar xs t 2) = 1 ∧ (ar xs t 1 ≠ ar xs t 2 ∧ (0 ≤ ar xs t 3 ∧ ar xs t 3 ≤ 1) ∧ (-9999 ≤ ar xs t 4 ∧ ar xs t 4 ≤ 9999) ∧ (-40 ≤ ar xs t 5 ∧ ar xs t 5 ≤ 60)) ∧ vn V < 40 := by
      unfold an_add at hr
      (repeat' split at hr) <;> first | (cases hr; done) | exact ⟨by assumption, by assumption, by assumption⟩ | exact ⟨by assumption, by assumption⟩ | assumption
    refine x_ob rfl (x_cI (rc_addSight (G.1.rn rn) (HR.cg G.1 hR) (ar_IR xs t 1) (ar_IR xs t 2) (ar_IR xs t 3) (ar_IR xs t 4) (ar_IR xs t 5) _ (fun v2 hv2 I2 row g2 t2 w1 w2 w3 w4 => ?_) (fun k hk => by rw [hr] at hk; cases hk)))
    rw [hr] at hv2 h1
    injection hv2 with hv2
    subst hv2
    exact tB h1 ⟨rfl, t2⟩ (hF I2 J1 e1 he1 (St.c2 hN hI hR hj sv io oo eo qw G g2 w1 w2 w3 w4 (Good_adV hN.1 q.2.2 (areM_in q.1).1 (areM_in q.1).2 q.2.1.1 (by omega) q.2.1.2.2.1 q.2.1.2.2.2) hN.2.1 (hN.2.2.1.le m) SW_ad))
  | inr k =>
    have E := gx k hr
    subst E
    refine x_ob rfl (x_cI (rc_addSight rn hR (ar_IR xs t 1) (ar_IR xs t 2) (ar_IR xs t 3) (ar_IR xs t 4) (ar_IR xs t 5) _ (fun v2 hv2 => by rw [hr] at hv2; cases hv2) (fun k2 hk2 I2 v2 _ f2 t2 => ?_)))
    rw [hr] at hk2 h1
    injection hk2 with hk2
    subst hk2
    exact tB h1 t2 (hF I2 J1 e1 he1 (hs.q ((Cf.refl hN.2.2.2.2.2.2.1).kw f2.w)))
theorem k38 (hs : St t I) (he : e ∈ stLs) (hx : 6 * t + 6 ≤ L ∧ L ≤ 3072) (hF : ∀ (I' J' : IM) (e' : Nat), e' ∈ stLs → St (t + 1) I' → Jn 0 200 217 (i32 ((6 * t : Nat) : Int) + 6) (ME e' I' J') Q) : cl38 L xs Jn 0 200 217 (i32 ((6 * t : Nat) : Int)) (ME e I J) Q := by
  obtain ⟨V, H, hN, ⟨hd, n, Ls, Lr, hI, hR, hj⟩, sv, io, oo, eo, qw⟩ := id hs
  have hM : Mt t ≤ 700000000 := by unfold Mt; omega
  have m := Mt_le t
  have cn := hN.cn hM
  have rn := hN.rn hM
  unfold cl38
  refine sl hx (k := 1) (by omega) rfl ?_
  refine sl hx (k := 2) (by omega) rfl ?_
  refine x_cI (hs_swap (cc_swap cn hI he (ar_IR xs t 1) (ar_IR xs t 2)) (fun k hk => by unfold an_swap at hk; (repeat' split at hk) <;> cases hk <;> simp) (fun c I1 e1 J1 he1 h1 g gx => ?_) he)
  dsimp only
  refine sl hx (k := 1) (by omega) rfl ?_
  refine sl hx (k := 2) (by omega) rfl ?_
  cases hr : an_swap V (ar xs t 1) (ar xs t 2) with
  | inl v =>
    have G := g v hr
    have q : (0 ≤ ar xs t 1 ∧ ar xs t 1 < vn V) ∧ (-9999 ≤ ar xs t 2 ∧ ar xs t 2 ≤ 9999) := by
      unfold an_swap at hr
      (repeat' split at hr) <;> first | (cases hr; done) | exact ⟨by assumption, by assumption, by assumption⟩ | exact ⟨by assumption, by assumption⟩ | assumption
    refine x_ob rfl (x_cI (rc_swap (G.1.rn rn) (HR.cg G.1 hR) (ar_IR xs t 1) (ar_IR xs t 2) _ (fun v2 hv2 I2 row g2 t2 w1 w2 w3 w4 => ?_) (fun k hk => by rw [hr] at hk; cases hk)))
    rw [hr] at hv2 h1
    injection hv2 with hv2
    subst hv2
    exact tB h1 ⟨rfl, t2⟩ (hF I2 J1 e1 he1 (St.c2 hN hI hR hj sv io oo eo qw G g2 w1 w2 w3 w4 (Good_sw hN.1 q.1 q.2) hN.2.1 (hN.2.2.1.le m) SW_sw))
  | inr k =>
    have E := gx k hr
    subst E
    refine x_ob rfl (x_cI (rc_swap rn hR (ar_IR xs t 1) (ar_IR xs t 2) _ (fun v2 hv2 => by rw [hr] at hv2; cases hv2) (fun k2 hk2 I2 v2 _ f2 t2 => ?_)))
    rw [hr] at hk2 h1
    injection hk2 with hk2
    subst hk2
    exact tB h1 t2 (hF I2 J1 e1 he1 (hs.q ((Cf.refl hN.2.2.2.2.2.2.1).kw f2.w)))
theorem k39 (hs : St t I) (he : e ∈ stLs) (hx : 6 * t + 6 ≤ L ∧ L ≤ 3072) (hF : ∀ (I' J' : IM) (e' : Nat), e' ∈ stLs → St (t + 1) I' → Jn 0 200 217 (i32 ((6 * t : Nat) : Int) + 6) (ME e' I' J') Q) : cl39 L xs Jn 0 200 217 (i32 ((6 * t : Nat) : Int)) (ME e I J) Q := by
  obtain ⟨V, H, hN, ⟨hd, n, Ls, Lr, hI, hR, hj⟩, sv, io, oo, eo, qw⟩ := id hs
  have hM : Mt t ≤ 700000000 := by unfold Mt; omega
  have m := Mt_le t
  have cn := hN.cn hM
  have rn := hN.rn hM
  unfold cl39
  refine sl hx (k := 1) (by omega) rfl ?_
  refine sl hx (k := 2) (by omega) rfl ?_
  refine x_cI (hs_fix (cc_fix cn hI he (ar_IR xs t 1) (ar_IR xs t 2)) (fun k hk => by unfold an_fix at hk; (repeat' split at hk) <;> cases hk <;> simp) (fun v hv => by unfold an_fix at hv; (repeat' split at hv) <;> first | (cases hv; done) | (injection hv with hv; subst hv; exact (hN.2.1 _ (by omega) (by have := hN.1.1; omega)).1)) (fun c I1 e1 J1 he1 h1 g gx => ?_) he)
  dsimp only
  refine sl hx (k := 1) (by omega) rfl ?_
  refine sl hx (k := 2) (by omega) rfl ?_
  cases hr : an_fix V H (ar xs t 1) (ar xs t 2) with
  | inl v =>
    have G := g v hr
    have q : (0 ≤ ar xs t 1 ∧ ar xs t 1 < vm V) ∧ (-99999 ≤ ar xs t 2 ∧ ar xs t 2 ≤ 99999) := by
      unfold an_fix at hr
      (repeat' split at hr) <;> first | (cases hr; done) | exact ⟨by assumption, by assumption, by assumption⟩ | exact ⟨by assumption, by assumption⟩ | assumption
    refine x_ob rfl (x_cI (rc_fix (G.1.rn rn) (HR.cg G.1 hR) (ar_IR xs t 1) (ar_IR xs t 2) _ (fun v2 hv2 I2 row g2 t2 w1 w2 w3 w4 => ?_) (fun k hk => by rw [hr] at hk; cases hk)))
    rw [hr] at hv2 h1
    injection hv2 with hv2
    subst hv2
    exact tBz h1 ⟨rfl, t2⟩ (hF I2 J1 e1 he1 (St.c2 hN hI hR hj sv io oo eo qw G g2 w1 w2 w3 w4 hN.1 (GoodH_bnI hN.2.1 q.1) (HB_bn (hN.2.2.1.le m) (by unfold Mt; omega)) (SW.refl V)))
  | inr k =>
    have E := gx k hr
    subst E
    refine x_ob rfl (x_cI (rc_fix rn hR (ar_IR xs t 1) (ar_IR xs t 2) _ (fun v2 hv2 => by rw [hr] at hv2; cases hv2) (fun k2 hk2 I2 v2 _ f2 t2 => ?_)))
    rw [hr] at hk2 h1
    injection hk2 with hk2
    subst hk2
    exact tBz h1 t2 (hF I2 J1 e1 he1 (hs.q ((Cf.refl hN.2.2.2.2.2.2.1).kw f2.w)))
theorem k40 (hs : St t I) (he : e ∈ stLs) (hx : 6 * t + 6 ≤ L ∧ L ≤ 3072) (hF : ∀ (I' J' : IM) (e' : Nat), e' ∈ stLs → St (t + 1) I' → Jn 0 200 217 (i32 ((6 * t : Nat) : Int) + 6) (ME e' I' J') Q) : cl40 L xs Jn 0 200 217 (i32 ((6 * t : Nat) : Int)) (ME e I J) Q := by
  obtain ⟨V, H, hN, ⟨hd, n, Ls, Lr, hI, hR, hj⟩, sv, io, oo, eo, qw⟩ := id hs
  have hM : Mt t ≤ 700000000 := by unfold Mt; omega
  have m := Mt_le t
  have cn := hN.cn hM
  have rn := hN.rn hM
  unfold cl40
  refine sl hx (k := 1) (by omega) rfl ?_
  refine x_cI (hs_free (cc_free cn hI he (ar_IR xs t 1)) (fun k hk => by unfold an_free at hk; (repeat' split at hk) <;> cases hk <;> simp) (fun c I1 e1 J1 he1 h1 g gx => ?_) he)
  dsimp only
  refine sl hx (k := 1) (by omega) rfl ?_
  cases hr : an_free V H (ar xs t 1) with
  | inl v =>
    have G := g v hr
    have q : (0 ≤ ar xs t 1 ∧ ar xs t 1 < vm V) := by
      unfold an_free at hr
      (repeat' split at hr) <;> first | (cases hr; done) | exact ⟨by assumption, by assumption, by assumption⟩ | exact ⟨by assumption, by assumption⟩ | assumption
    refine x_ob rfl (x_cI (rc_free (G.1.rn rn) (HR.cg G.1 hR) (ar_IR xs t 1) _ (fun v2 hv2 I2 row g2 t2 w1 w2 w3 w4 => ?_) (fun k hk => by rw [hr] at hk; cases hk)))
    rw [hr] at hv2 h1
    injection hv2 with hv2
    subst hv2
    exact tB h1 ⟨rfl, t2⟩ (hF I2 J1 e1 he1 (St.c2 hN hI hR hj sv io oo eo qw G g2 w1 w2 w3 w4 hN.1 (GoodH_fr hN.2.1) (HB_fr (hN.2.2.1.le m)) (SW.refl V)))
  | inr k =>
    have E := gx k hr
    subst E
    refine x_ob rfl (x_cI (rc_free rn hR (ar_IR xs t 1) _ (fun v2 hv2 => by rw [hr] at hv2; cases hv2) (fun k2 hk2 I2 v2 _ f2 t2 => ?_)))
    rw [hr] at hk2 h1
    injection hk2 with hk2
    subst hk2
    exact tB h1 t2 (hF I2 J1 e1 he1 (hs.q ((Cf.refl hN.2.2.2.2.2.2.1).kw f2.w)))
theorem k42 (hs : St t I) (he : e ∈ stLs) (hx : 6 * t + 6 ≤ L ∧ L ≤ 3072) (hF : ∀ (I' J' : IM) (e' : Nat), e' ∈ stLs → St (t + 1) I' → Jn 0 200 217 (i32 ((6 * t : Nat) : Int) + 6) (ME e' I' J') Q) : cl42 L xs Jn 0 200 217 (i32 ((6 * t : Nat) : Int)) (ME e I J) Q := by
  obtain ⟨V, H, hN, ⟨hd, n, Ls, Lr, hI, hR, hj⟩, sv, io, oo, eo, qw⟩ := id hs
  have hM : Mt t ≤ 700000000 := by unfold Mt; omega
  have m := Mt_le t
  have cn := hN.cn hM
  have rn := hN.rn hM
  unfold cl42
  refine sl hx (k := 1) (by omega) rfl ?_
  refine x_cI (hs_relax (cc_relax cn hI (ar_IR xs t 1)) (fun k hk => by unfold an_relax at hk; (repeat' split at hk) <;> cases hk <;> simp) (fun c I1 e1 J1 he1 h1 g gx => ?_) he)
  dsimp only
  refine sl hx (k := 1) (by omega) rfl ?_
  have RBG : GoodH (vm V) (rbs V (ar xs t 1).toNat H).2 := (rbs_ok (M := 0) hN.1 _ hN.2.1 hN.2.2.1).1
  have RBB : (1 ≤ ar xs t 1 ∧ ar xs t 1 ≤ 50) → HB (vm V) (rbs V (ar xs t 1).toNat H).2 (Mt (t + 1)) := fun q => (rbs_drift hN.1 hN.2.1 hN.2.2.1 (n := (ar xs t 1).toNat) (by omega)).le (by unfold Mt; omega)
  cases hr : an_relax V H (ar xs t 1) with
  | inl v =>
    have G := g v hr
    have q : (1 ≤ ar xs t 1 ∧ ar xs t 1 ≤ 50) := by
      unfold an_relax at hr
      (repeat' split at hr) <;> first | (cases hr; done) | exact ⟨by assumption, by assumption, by assumption⟩ | exact ⟨by assumption, by assumption⟩ | assumption
    refine x_ob rfl (x_cI (rc_relax (G.1.rn rn) (HR.cg G.1 hR) (ar_IR xs t 1) _ (fun v2 hv2 I2 row g2 t2 w1 w2 w3 w4 => ?_) (fun k hk => by rw [hr] at hk; cases hk)))
    rw [hr] at hv2 h1
    injection hv2 with hv2
    subst hv2
    exact tB h1 ⟨rfl, t2⟩ (hF I2 J1 e1 he1 (St.c2 hN hI hR hj sv io oo eo qw G g2 w1 w2 w3 w4 hN.1 RBG (RBB q) (SW.refl V)))
  | inr k =>
    have E := gx k hr
    subst E
    refine x_ob rfl (x_cI (rc_relax rn hR (ar_IR xs t 1) _ (fun v2 hv2 => by rw [hr] at hv2; cases hv2) (fun k2 hk2 I2 v2 _ f2 t2 => ?_)))
    rw [hr] at hk2 h1
    injection hk2 with hk2
    subst hk2
    exact tB h1 t2 (hF I2 J1 e1 he1 (hs.q ((Cf.refl hN.2.2.2.2.2.2.1).kw f2.w)))
theorem k43 (hs : St t I) (he : e ∈ stLs) (hx : 6 * t + 6 ≤ L ∧ L ≤ 3072) (hF : ∀ (I' J' : IM) (e' : Nat), e' ∈ stLs → St (t + 1) I' → Jn 0 200 217 (i32 ((6 * t : Nat) : Int) + 6) (ME e' I' J') Q) : cl43 L xs Jn 0 200 217 (i32 ((6 * t : Nat) : Int)) (ME e I J) Q := by
  obtain ⟨V, H, hN, ⟨hd, n, Ls, Lr, hI, hR, hj⟩, sv, io, oo, eo, qw⟩ := id hs
  have hM : Mt t ≤ 700000000 := by unfold Mt; omega
  have m := Mt_le t
  have cn := hN.cn hM
  have rn := hN.rn hM
  unfold cl43
  refine sl hx (k := 1) (by omega) rfl ?_
  refine x_cI (hs_tellError (cc_tellError cn hI (ar_IR xs t 1)) (fun k hk => by unfold an_tell at hk; (repeat' split at hk) <;> cases hk <;> simp) (fun c I1 e1 J1 he1 h1 g gx => ?_) he)
  dsimp only
  refine sl hx (k := 1) (by omega) rfl ?_
  cases hr : an_tell V (ar xs t 1) with
  | inl v =>
    have G := g v hr
    have q : (-999 ≤ ar xs t 1 ∧ ar xs t 1 ≤ 999) := by
      unfold an_tell at hr
      (repeat' split at hr) <;> first | (cases hr; done) | exact ⟨by assumption, by assumption, by assumption⟩ | exact ⟨by assumption, by assumption⟩ | assumption
    refine x_ob rfl (x_cI (rc_tellError (G.1.rn rn) (HR.cg G.1 hR) (ar_IR xs t 1) _ (fun v2 hv2 I2 row g2 t2 w1 w2 w3 w4 => ?_) (fun k hk => by rw [hr] at hk; cases hk)))
    rw [hr] at hv2 h1
    injection hv2 with hv2
    subst hv2
    exact tB h1 ⟨rfl, t2⟩ (hF I2 J1 e1 he1 (St.c2 hN hI hR hj sv io oo eo qw G g2 w1 w2 w3 w4 (Good_te hN.1 q) hN.2.1 (hN.2.2.1.le m) SW_te))
  | inr k =>
    have E := gx k hr
    subst E
    refine x_ob rfl (x_cI (rc_tellError rn hR (ar_IR xs t 1) _ (fun v2 hv2 => by rw [hr] at hv2; cases hv2) (fun k2 hk2 I2 v2 _ f2 t2 => ?_)))
    rw [hr] at hk2 h1
    injection hk2 with hk2
    subst hk2
    exact tB h1 t2 (hF I2 J1 e1 he1 (hs.q ((Cf.refl hN.2.2.2.2.2.2.1).kw f2.w)))
theorem k45 (hs : St t I) (he : e ∈ stLs) (hx : 6 * t + 6 ≤ L ∧ L ≤ 3072) (hF : ∀ (I' J' : IM) (e' : Nat), e' ∈ stLs → St (t + 1) I' → Jn 0 200 217 (i32 ((6 * t : Nat) : Int) + 6) (ME e' I' J') Q) : cl45 L xs Jn 0 200 217 (i32 ((6 * t : Nat) : Int)) (ME e I J) Q := by
  obtain ⟨V, H, hN, ⟨hd, n, Ls, Lr, hI, hR, hj⟩, sv, io, oo, eo, qw⟩ := id hs
  have hM : Mt t ≤ 700000000 := by unfold Mt; omega
  have m := Mt_le t
  have cn := hN.cn hM
  have rn := hN.rn hM
  unfold cl45
  refine sl hx (k := 1) (by omega) rfl ?_
  refine sl hx (k := 2) (by omega) rfl ?_
  refine x_cI (hs_set (cc_set cn hI he (ar_IR xs t 1) (ar_IR xs t 2)) (fun k hk => by unfold an_sets at hk; (repeat' split at hk) <;> cases hk <;> simp) (fun c I1 e1 J1 he1 h1 g gx => ?_) he)
  dsimp only
  refine sl hx (k := 1) (by omega) rfl ?_
  refine sl hx (k := 2) (by omega) rfl ?_
  cases hr : an_sets V (ar xs t 1) (ar xs t 2) with
  | inl v =>
    have G := g v hr
    have q : (0 ≤ ar xs t 1 ∧ ar xs t 1 < 4 ∧ seL (ar xs t 1) ≤ ar xs t 2 ∧ ar xs t 2 ≤ seU (ar xs t 1)) := by
      unfold an_sets at hr
      (repeat' split at hr) <;> first | (cases hr; done) | exact ⟨by assumption, by assumption, by assumption⟩ | exact ⟨by assumption, by assumption⟩ | assumption
    refine x_ob rfl (x_cI (rc_set (G.1.rn rn) (HR.cg G.1 hR) (ar_IR xs t 1) (ar_IR xs t 2) _ (fun v2 hv2 I2 row g2 t2 w1 w2 w3 w4 => ?_) (fun k hk => by rw [hr] at hk; cases hk)))
    rw [hr] at hv2 h1
    injection hv2 with hv2
    subst hv2
    exact tB h1 ⟨rfl, t2⟩ (hF I2 J1 e1 he1 (St.c2 hN hI hR hj sv io oo eo qw G g2 w1 w2 w3 w4 (Good_sS hN.1 ⟨q.1, q.2.1⟩ q.2.2) hN.2.1 (hN.2.2.1.le m) SW_ss))
  | inr k =>
    have E := gx k hr
    subst E
    refine x_ob rfl (x_cI (rc_set rn hR (ar_IR xs t 1) (ar_IR xs t 2) _ (fun v2 hv2 => by rw [hr] at hv2; cases hv2) (fun k2 hk2 I2 v2 _ f2 t2 => ?_)))
    rw [hr] at hk2 h1
    injection hk2 with hk2
    subst hk2
    exact tB h1 t2 (hF I2 J1 e1 he1 (hs.q ((Cf.refl hN.2.2.2.2.2.2.1).kw f2.w)))
end Law64c
