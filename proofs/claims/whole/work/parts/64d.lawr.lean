section Law64d
variable {e t L : Nat} {I I1 I2 J : IM} {Q : Post} {xs : Nat → Int32} {Jn : LT} {V : Vw} {H : Hw}
theorem k41 (hs : St t I) (he : e ∈ stLs) (hx : 6 * t + 6 ≤ L ∧ L ≤ 3072) (hF : ∀ (I' J' : IM) (e' : Nat), e' ∈ stLs → St (t + 1) I' → Jn 0 200 217 (i32 ((6 * t : Nat) : Int) + 6) (ME e' I' J') Q) : cl41 L xs Jn 0 200 217 (i32 ((6 * t : Nat) : Int)) (ME e I J) Q := by
  obtain ⟨V, H, hN, ⟨hd, n, Ls, Lr, hI, hR, hj⟩, sv, io, oo, eo, qw⟩ := id hs
  have hM : Mt t ≤ 700000000 := by unfold Mt; omega
  unfold cl41
  have lv := lvl_ok hN.1 hN.2.1 hN.2.2.1
  refine x_ob rfl (x_cI (cc_level (hN.cn hM) hI _ (fun v hv I1 e1 g1 he1 r1 r2 r3 => ?_) (fun k hk => by cases hk)))
  injection hv with hv
  subst hv
  dsimp only
  refine x_ob rfl (x_cI (rc_level (g1.rn (hN.rn hM)) (HR.cg g1 hR) _ (fun v2 hv2 I2 row g2 t2 w1 w2 w3 w4 => ?_) (fun k hk => by cases hk)))
  injection hv2 with hv2
  subst hv2
  exact x_brr rfl (hF I2 J e1 he1 (St.c2 hN hI hR hj sv io oo eo qw ⟨g1, r1, r2, r3⟩ g2 w1 w2 w3 w4 hN.1 lv.1 (lv.2.le (by unfold Mt; omega)) (SW.refl V)))
theorem k44 (hs : St t I) (he : e ∈ stLs) (hx : 6 * t + 6 ≤ L ∧ L ≤ 3072) (hF : ∀ (I' J' : IM) (e' : Nat), e' ∈ stLs → St (t + 1) I' → Jn 0 200 217 (i32 ((6 * t : Nat) : Int) + 6) (ME e' I' J') Q) : cl44 L xs Jn 0 200 217 (i32 ((6 * t : Nat) : Int)) (ME e I J) Q := by
  obtain ⟨V, H, hN, ⟨hd, n, Ls, Lr, hI, hR, hj⟩, sv, io, oo, eo, qw⟩ := id hs
  have hM : Mt t ≤ 700000000 := by unfold Mt; omega
  unfold cl44
  refine x_ob rfl (x_cI (cc_findError (hN.cn hM) hI _ (fun v hv I1 e1 g1 he1 r1 r2 r3 => ?_) (fun k hk => by cases hk)))
  injection hv with hv
  subst hv
  dsimp only
  refine x_ob rfl (x_cI (rc_findError (g1.rn (hN.rn hM)) (HR.cg g1 hR) _ (fun v2 hv2 I2 row g2 t2 w1 w2 w3 w4 => ?_) (fun k hk => by cases hk)))
  injection hv2 with hv2
  subst hv2
  exact x_brr rfl (hF I2 J e1 he1 (St.c2 hN hI hR hj sv io oo eo qw ⟨g1, r1, r2, r3⟩ g2 w1 w2 w3 w4 (Good_s4 hN.1) hN.2.1 (hN.2.2.1.le (Mt_le t)) SW_ss))
theorem st_core {x : Int} (h01 : x = 0 ∨ x = 1) (hs : St t I) (he : e ∈ stLs) (hx : 6 * t + 6 ≤ L ∧ L ≤ 3072) {F : Sem} {G : Int32 → Sem} (hF : ∀ (I' J' : IM) (e' : Nat), e' ∈ stLs → St (t + 1) I' → F (ME e' I' J') Q)
    (hG : ∀ (c : Int) (I1 J1 : IM) (e1 : Nat), e1 ∈ stLs → (ob 11 200 (cI SX11_strike [.ref 200, .int (i32 (ar xs t 1)), .int (i32 x)] fun v6 => ob 11 200 (cI SX11_thrown [.ref 200] fun v7 => br (v7 = i32 c) (br (i32 c = 0) (aJ 217 0 fun v8 => br (v6 = 0) (br ((lg_cmp v8 0) = 0) F (rZ 0)) (br ((lg_cmp v8 1) = 0) F (rZ 0))) F) (rZ 0)))) (ME e1 I1 J1) Q → G (i32 c) (ME e1 I1 J1) Q) :
    cI SL_strike [.ref 0, .int (i32 (ar xs t 1)), .int (i32 x), .ref 217] G (ME e I J) Q := by
  obtain ⟨V, H, hN, ⟨hd, n, Ls, Lr, hI, hR, hj⟩, sv, io, oo, eo, qw⟩ := id hs
  have hM : Mt t ≤ 700000000 := by unfold Mt; omega
  have m := Mt_le t
  refine x_cI (hs_strike (cc_strike (hN.cn hM) hI he (ar_IR xs t 1) h01) (fun k hk => by unfold an_strike at hk; (repeat' split at hk) <;> cases hk <;> simp) (fun v hv => by
    unfold an_strike at hv
    split at hv
    · rename_i q; injection hv with hv; subst hv; exact (gd_s hN.1 q.1 q.2).2.2.2.2.2.2
    · cases hv) (fun c I1 e1 J1 he1 h1 g gx => hG c I1 J1 e1 he1 ?_) he)
  cases hr : an_strike V (ar xs t 1) with
  | inl v =>
    have G := g v hr
    refine x_ob rfl (x_cI (rc_strike (G.1.rn (hN.rn hM)) (HR.cg G.1 hR) (ar_IR xs t 1) h01 _ (fun v2 hv2 I2 row g2 t2 w1 w2 w3 w4 => ?_) (fun k hk => by rw [hr] at hk; cases hk)))
    rw [hr] at hv2 h1
    injection hv2 with hv2
    subst hv2
    exact tBz h1 ⟨rfl, t2⟩ (hF I2 J1 e1 he1 (St.c2 hN hI hR hj sv io oo eo qw G g2 w1 w2 w3 w4 (Good_st5 hN.1 h01) hN.2.1 (hN.2.2.1.le m) SW_st))
  | inr k =>
    have E := gx k hr
    subst E
    refine x_ob rfl (x_cI (rc_strike (hN.rn hM) hR (ar_IR xs t 1) h01 _ (fun v2 hv2 => by rw [hr] at hv2; cases hv2) (fun k2 hk2 I2 v2 _ f2 t2 => ?_)))
    rw [hr] at hk2 h1
    injection hk2 with hk2
    subst hk2
    exact tBz h1 t2 (hF I2 J1 e1 he1 (hs.q ((Cf.refl hN.2.2.2.2.2.2.1).kw f2.w)))
theorem k37 (hs : St t I) (he : e ∈ stLs) (hx : 6 * t + 6 ≤ L ∧ L ≤ 3072) (hF : ∀ (I' J' : IM) (e' : Nat), e' ∈ stLs → St (t + 1) I' → Jn 0 200 217 (i32 ((6 * t : Nat) : Int) + 6) (ME e' I' J') Q) : cl37 L xs Jn 0 200 217 (i32 ((6 * t : Nat) : Int)) (ME e I J) Q := by
  unfold cl37
  refine sl hx (k := 1) (by omega) rfl (sl hx (k := 2) (by omega) rfl (x_br (fun h => ?_) (fun h => ?_)))
  · refine st_core (x := 0) (Or.inl rfl) hs he hx hF (fun c I1 J1 e1 he1 g => ?_)
    exact sl hx (k := 1) (by omega) rfl (sl hx (k := 2) (by omega) rfl (x_br (fun _ => g) (fun h2 => absurd h h2)))
  · refine st_core (x := 1) (Or.inr rfl) hs he hx hF (fun c I1 J1 e1 he1 g => ?_)
    exact sl hx (k := 1) (by omega) rfl (sl hx (k := 2) (by omega) rfl (x_br (fun h2 => absurd h2 h) (fun _ => g)))
theorem k46 (hs : St t I) (he : e ∈ stLs) (hx : 6 * t + 6 ≤ L ∧ L ≤ 3072) (hF : ∀ (I' J' : IM) (e' : Nat), e' ∈ stLs → St (t + 1) I' → Jn 0 200 217 (i32 ((6 * t : Nat) : Int) + 6) (ME e' I' J') Q) : cl46 L xs Jn 0 200 217 (i32 ((6 * t : Nat) : Int)) (ME e I J) Q := by
  obtain ⟨V, H, hN, ⟨hd, n, Ls, Lr, hI, hR, hj⟩, sv, io, oo, eo, qw⟩ := id hs
  have hM : Mt t ≤ 700000000 := by unfold Mt; omega
  have m := Mt_le t
  unfold cl46
  refine x_cI ?_
  refine x_in (Nat.le_of_ble_eq_true rfl) ?_
  dsimp only [bL_undo, bL_undo_0]
  cases n with
  | zero =>
    refine x_ob rfl (cc_undo0 hI (x_rI ?_))
    dsimp only
    refine x_ob rfl (x_cI (rc_undo0 hR fun I2 f2 t2 => ?_))
    exact tB (r := .inr 3) (f := c1) (c := 1) ⟨rfl, by omega⟩ t2 (hF I2 J e he (hs.q ((Cf.refl hN.2.2.2.2.2.2.1).kw f2.w)))
  | succ n =>
    have h0 := hj 0 (by omega)
    have i0 := hI.2.2.2.2 0 (by omega)
    refine x_ob rfl (cc_undo (hN.cn hM) hI fun I1 g1 r1 r2 r3 => sJ_i fun J1 hj1 => x_rI ?_)
    dsimp only
    refine x_ob rfl (x_cI (sp_X11_undo (HR.cg g1 hR) fun I2 f2 k2 t2 hR2 row => ?_))
    refine tB (r := .inl (n : Int)) (f := c1) ⟨rfl, hj1⟩ ⟨rfl, t2⟩ (hF I2 J1 e he ?_)
    have fr : ∀ q, q < 8 ∨ (30 ≤ q ∧ q < 41) ∨ q = 170 ∨ 201 < q → I2 q = I q := fun q a => by rw [f2 q (by omega) (by omega), g1.1 q (by omega)]
    have fk : ∀ k, k ≠ 7 → k ≠ 0 → I2 200 k = I 200 k := fun k a b => by rw [k2 k a b, g1.1 200 (by omega)]
    have fc : ∀ q, q < 200 → I2 q = I1 q := fun q a => f2 q (by omega) (by omega)
    have ev : vm (Ls 0).1 = vm V := h0.2.2.1.1
    refine ⟨(Ls 0).1, (Ls 0).2, ⟨i0.2.1, by rw [ev]; exact h0.1, by rw [ev]; exact h0.2.1.le m, r1.keep fun d a => fc _ (by omega), r2.keep fun d a => fc _ (by omega), h0.2.2.1.wl (hN.2.2.2.2.2.1.keep fun d a => fr _ (by omega)), fun x hx => by rw [fc 190 (by omega)]; exact g1.2 x hx, Rrw_tr (I := fun _ => Lr 0) (r := 0) i0.2.1.1 i0.1 row h0.2.2.2.1, by rw [ev]; exact Rhr_tr (I := fun _ => Lr 0) (r := 0) hN.1.1 row h0.2.2.2.2⟩, ⟨_, n, fun j => Ls (j + 1), fun j => Lr (j + 1), r3.keepx fun q a b => fc q (by omega), hR2, fun j hj2 => ?_⟩, sv.keep m h0.2.2.1 (fun q a b => fr q (by omega)) (by rw [fr 0 (by omega)]) (fk 8 (by omega) (by omega)) (fr 205 (by omega)), io.keep (fr 1 (by omega)) (fr 2 (by omega)) (fk 20 (by omega) (by omega)) (fr 215 (by omega)), oo.keep (fr 3 (by omega)) (fr 4 (by omega)) (fk 31 (by omega) (by omega)) (fr 216 (by omega)), eo.keep (by rw [fr 0 (by omega)]) (by rw [fr 0 (by omega)]) (fk 27 (by omega) (by omega)) (fk 28 (by omega) (by omega)), qw.keep (fr 170 (by omega))⟩
    obtain ⟨a, b, c, d, x⟩ := hj (j + 1) (by omega)
    rw [ev]
    exact ⟨a, b.le m, h0.2.2.1.symm.trans c, d, x⟩
theorem k51 (hs : St t I) (he : e ∈ stLs) (hx : 6 * t + 6 ≤ L ∧ L ≤ 3072) (hF : ∀ (I' J' : IM) (e' : Nat), e' ∈ stLs → St (t + 1) I' → Jn 0 200 217 (i32 ((6 * t : Nat) : Int) + 6) (ME e' I' J') Q) : cl51 L xs Jn 0 200 217 (i32 ((6 * t : Nat) : Int)) (ME e I J) Q := by
  obtain ⟨V, H, hN, hh, sv, io, oo, eo, qw⟩ := id hs
  have hM : Mt t ≤ 700000000 := by unfold Mt; omega
  have m := Mt_le t
  have rn := hN.rn hM
  unfold cl51
  refine x_ob rfl (x_cI (cc_save (hN.cn hM) fun I1 f1 k1 z1 r1 r2 => ?_))
  dsimp only
  have rn1 : Rn I1 V H := ⟨rn.1, rn.2.1, rn.2.2.1, rn.2.2.2.1.keep (f1 201 (by omega)), rn.2.2.2.2.keep (f1 201 (by omega))⟩
  refine x_ob rfl (x_cI (rc_save rn1 fun I2 f2 k2 z2 row => x_brr rfl (hF I2 J e he ?_)))
  have fr : ∀ q, q ≠ 0 → (q < 30 ∨ 41 ≤ q) → q ≠ 200 → q ≠ 205 → I2 q = I q := fun q a b c d => by rw [f2 q c d, f1 q (by omega)]
  have fk : ∀ k, k ≠ 0 → k ≠ 8 → I2 200 k = I 200 k := fun k a b => by rw [k2 k a b, f1 200 (by omega)]
  have f0 : ∀ k, k ≠ 12 → I2 0 k = I 0 k := fun k a => by rw [f2 0 (by omega) (by omega), k1 k a]
  refine ⟨V, H, hN.keep m (fun q a => fr q (by omega) (by omega) (by omega) (by omega)) (fun k a b => by rw [fr 201 (by omega) (by omega) (by omega) (by omega)]) (fun x hx => by rw [fr 190 (by omega) (by omega) (by omega) (by omega)]; exact hN.2.2.2.2.2.2.1 x hx), hh.keep m (SW.refl V) (fun q a b => fr q (by omega) (by omega) (by omega) (by omega)) (fk 7 (by omega) (by omega)) (fr 206 (by omega) (by omega) (by omega) (by omega)), Or.inr ⟨by rw [f2 0 (by omega) (by omega)]; exact z1, z2, V, H, hN.1, hN.2.1, hN.2.2.1.le m, SW.refl V, r1.keep fun d a => f2 _ (by omega) (by omega), r2.keep fun d a => f2 _ (by omega) (by omega), Rrw_tr (I := I1) (r := 201) hN.1.1 hN.1.2.1 row rn1.2.2.2.1, Rhr_tr (I := I1) (r := 201) hN.1.1 row rn1.2.2.2.2⟩, io.keep (fr 1 (by omega) (by omega) (by omega) (by omega)) (fr 2 (by omega) (by omega) (by omega) (by omega)) (fk 20 (by omega) (by omega)) (fr 215 (by omega) (by omega) (by omega) (by omega)), oo.keep (fr 3 (by omega) (by omega) (by omega) (by omega)) (fr 4 (by omega) (by omega) (by omega) (by omega)) (fk 31 (by omega) (by omega)) (fr 216 (by omega) (by omega) (by omega) (by omega)), eo.keep (f0 13 (by omega)) (f0 14 (by omega)) (fk 27 (by omega) (by omega)) (fk 28 (by omega) (by omega)), qw.keep (fr 170 (by omega) (by omega) (by omega) (by omega))⟩
theorem k52 (hs : St t I) (he : e ∈ stLs) (hx : 6 * t + 6 ≤ L ∧ L ≤ 3072) (hF : ∀ (I' J' : IM) (e' : Nat), e' ∈ stLs → St (t + 1) I' → Jn 0 200 217 (i32 ((6 * t : Nat) : Int) + 6) (ME e' I' J') Q) : cl52 L xs Jn 0 200 217 (i32 ((6 * t : Nat) : Int)) (ME e I J) Q := by
  obtain ⟨V, H, hN, ⟨hd, n, Ls, Lr, hI, hR, hj⟩, sv, io, oo, eo, qw⟩ := id hs
  have m := Mt_le t
  unfold cl52
  refine x_cI ?_
  refine x_in (Nat.le_of_ble_eq_true rfl) ?_
  dsimp only [bL_restoreState, bL_restoreState_0]
  rcases sv with ⟨z1, z2⟩ | ⟨z1, z2, V', H', c1, c2, c3, c4, c5, c6, c7, c8⟩
  · refine x_ob rfl (cc_restore0 z1 (x_rI ?_))
    dsimp only
    refine x_ob rfl (x_cI (rc_restore0 z2 fun I2 f2 t2 => ?_))
    exact tB (r := .inr 3) (f := fun _ => 1) (c := 1) ⟨rfl, by omega⟩ t2 (hF I2 J e he (hs.q ((Cf.refl hN.2.2.2.2.2.2.1).kw f2.w)))
  · refine x_ob rfl (cc_restore z1 c1 c5 c6 fun I1 f1 k1 y1 r1 r2 => sJ_i fun J1 hj1 => x_rI ?_)
    dsimp only
    have n205 : I1 205 1 = vn V' := by rw [f1 205 (by omega) (by omega)]; exact c7.2.1
    refine x_ob rfl (x_cI (rc_restore (V' := V') (by rw [f1 200 (by omega) (by omega)]; exact z2) n205 fun I2 f2 k2 t0 t7 row => ?_))
    refine tB (r := .inl (vn V' : Int)) (f := fun _ => 1) ⟨rfl, hj1⟩ ⟨rfl, t0⟩ (hF I2 J1 e he ?_)
    have fr : ∀ q, (q < 8 ∨ 18 < q) → q ≠ 41 → q ≠ 200 → q ≠ 201 → I2 q = I q := fun q a b c d => by rw [f2 q c d, f1 q a b]
    have fk : ∀ k, k ≠ 0 → k ≠ 7 → I2 200 k = I 200 k := fun k a b => by rw [k2 k a b, f1 200 (by omega) (by omega)]
    have fc : ∀ q, q < 200 → I2 q = I1 q := fun q a => f2 q (by omega) (by omega)
    have row2 : ∀ k : Int, 0 ≤ k → k < 308 → I2 201 k = I 205 k := fun k a b => by rw [row k a b, f1 205 (by omega) (by omega)]
    refine ⟨V', H', ⟨c1, c2, c3.le m, r1.keep fun d a => fc _ (by omega), r2.keep fun d a => fc _ (by omega), c4.wl (hN.2.2.2.2.2.1.keep fun d a => fr _ (by omega) (by omega) (by omega) (by omega)), fun x hx => by rw [fr 190 (by omega) (by omega) (by omega) (by omega)]; exact hN.2.2.2.2.2.2.1 x hx, Rrw_tr (I := I) (r := 205) c1.1 c1.2.1 row2 c7, Rhr_tr (I := I) (r := 205) c1.1 row2 c8⟩, ⟨hd, 0, Ls, Lr, ⟨by rw [fc 41 (by omega)]; exact y1, by rw [fc 41 (by omega), k1 2 (by omega)]; exact hI.2.1, by omega, hI.2.2.2.1, fun j hj => absurd hj (Nat.not_lt_zero j)⟩, ⟨t7, by omega, fun j hj => absurd hj (Nat.not_lt_zero j)⟩, fun j hj => absurd hj (Nat.not_lt_zero j)⟩, ?_, io.keep (fr 1 (by omega) (by omega) (by omega) (by omega)) (fr 2 (by omega) (by omega) (by omega) (by omega)) (fk 20 (by omega) (by omega)) (fr 215 (by omega) (by omega) (by omega) (by omega)), oo.keep (fr 3 (by omega) (by omega) (by omega) (by omega)) (fr 4 (by omega) (by omega) (by omega) (by omega)) (fk 31 (by omega) (by omega)) (fr 216 (by omega) (by omega) (by omega) (by omega)), eo.keep (by rw [fr 0 (by omega) (by omega) (by omega) (by omega)]) (by rw [fr 0 (by omega) (by omega) (by omega) (by omega)]) (fk 27 (by omega) (by omega)) (fk 28 (by omega) (by omega)), qw.keep (fr 170 (by omega) (by omega) (by omega) (by omega))⟩
    exact Or.inr ⟨by rw [fr 0 (by omega) (by omega) (by omega) (by omega)]; exact z1, by rw [fk 8 (by omega) (by omega)]; exact z2, V', H', c1, c2, c3.le m, SW.refl V', c5.keep fun d a => fr _ (by omega) (by omega) (by omega) (by omega), c6.keep fun d a => fr _ (by omega) (by omega) (by omega) (by omega), c7.keep (fr 205 (by omega) (by omega) (by omega) (by omega)), c8.keep (fr 205 (by omega) (by omega) (by omega) (by omega))⟩
end Law64d
