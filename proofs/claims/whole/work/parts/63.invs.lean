/-! ===== what holds between two calls ===== -/
def Mt (t : Nat) : Int := 100000 + 1300000 * t
def SW (V V' : Vw) : Prop := vm V' = vm V ∧ ∀ k : Int, 0 ≤ k → k < vm V → vN V' k = vN V k ∧ vK V' 0 k = vK V 0 k
def Hst (I : IM) (V : Vw) (M : Int) : Prop := ∃ (hd n : Nat) (L : Nat → Vw × Hw) (Lr : Nat → Int → Int), HI I hd n L ∧ HR I n Lr ∧ ∀ j, j < n → GoodH (vm V) (L j).2 ∧ HB (vm V) (L j).2 M ∧ SW V (L j).1 ∧ Rrw (fun _ => Lr j) 0 0 (L j).1 ∧ Rhr (fun _ => Lr j) 0 0 (vm V) (L j).2
def Svd (I : IM) (V : Vw) (M : Int) : Prop := (I 0 12 = 0 ∧ I 200 8 = 0) ∨ (I 0 12 = 1 ∧ I 200 8 = 1 ∧ ∃ (V' : Vw) (H' : Hw), Good V' ∧ GoodH (vm V') H' ∧ HB (vm V') H' M ∧ SW V V' ∧ Rst I 30 V' ∧ Rht I 30 H' ∧ Rrw I 205 0 V' ∧ Rhr I 205 0 (vm V') H')
def InO (I : IM) : Prop := ∃ l : List Int, Tx I 1 2 l ∧ Ty I 20 215 (l.map sb) ∧ By l
def OuO (I : IM) : Prop := ∃ l : List Int, Tx I 3 4 l ∧ Ty I 31 216 l ∧ l.length ≤ 400
def ErO (I : IM) : Prop := I 0 13 = I 200 27 ∧ I 0 14 = I 200 28
def Nw (I : IM) (V : Vw) (H : Hw) (M : Int) : Prop := Good V ∧ GoodH (vm V) H ∧ HB (vm V) H M ∧ Rst I 8 V ∧ Rht I 8 H ∧ Rwl I 5 V ∧ dg0 I ∧ Rrw I 201 0 V ∧ Rhr I 201 0 (vm V) H
def St (t : Nat) (I : IM) : Prop := ∃ (V : Vw) (H : Hw), Nw I V H (Mt t) ∧ Hst I V (Mt t) ∧ Svd I V (Mt t) ∧ InO I ∧ OuO I ∧ ErO I ∧ Qw I
theorem HB.le {m : Nat} {H : Hw} {M M' : Int} (h : HB m H M) (hm : M ≤ M') : HB m H M' := fun k a b c => by have := h k a b c; omega
theorem Mt_le (t : Nat) : Mt t ≤ Mt (t + 1) := by unfold Mt; omega
theorem SW.refl (V : Vw) : SW V V := ⟨rfl, fun _ _ _ => ⟨rfl, rfl⟩⟩
theorem SW.symm {V V' : Vw} (h : SW V V') : SW V' V := ⟨h.1.symm, fun k a b => by rw [h.1] at b; have := h.2 k a b; exact ⟨this.1.symm, this.2.symm⟩⟩
theorem SW.trans {V V' V2 : Vw} (h : SW V V') (h2 : SW V' V2) : SW V V2 := ⟨by rw [h2.1, h.1], fun k a b => by have x := h.2 k a b; have y := h2.2 k a (by rw [h.1]; exact b); exact ⟨by rw [y.1, x.1], by rw [y.2, x.2]⟩⟩
theorem SW.wl {I : IM} {q : Nat} {V V' : Vw} (h : SW V V') (hW : Rwl I q V) : Rwl I q V' := ⟨by rw [h.1]; exact hW.1, fun k a b => by rw [h.1] at b; rw [(h.2 k a b).1]; exact hW.2.1 k a b, fun k a b => by rw [h.1] at b; rw [(h.2 k a b).2]; exact hW.2.2 k a b⟩
theorem Rrw_tr {I I' : IM} {r r' : Nat} {V : Vw} (hm : vm V ≤ 12) (hn : vn V ≤ 40) (h : ∀ k : Int, 0 ≤ k → k < 308 → I' r' k = I r k) (hW : Rrw I r 0 V) : Rrw I' r' 0 V :=
  Rrw_ext (I := fun _ => I r) (I' := fun _ => I' r') (r := 0) hm hn h hW
theorem Rhr_tr {I I' : IM} {r r' m : Nat} {H : Hw} (hm : m ≤ 12) (h : ∀ k : Int, 0 ≤ k → k < 308 → I' r' k = I r k) (hW : Rhr I r 0 m H) : Rhr I' r' 0 m H :=
  Rhr_ext308 (I := fun _ => I r) (I' := fun _ => I' r') (r := 0) hm h hW
section Inv63
variable {I I' : IM} {V V' : Vw} {H H' : Hw} {M M' : Int} {t : Nat}
theorem Nw.cn (h : Nw I V H M) (hM : M ≤ 700000000) : Cn I V H := ⟨h.1, h.2.1, h.2.2.1.le hM, h.2.2.2.1, h.2.2.2.2.1, h.2.2.2.2.2.1, h.2.2.2.2.2.2.1⟩
theorem Nw.rn (h : Nw I V H M) (hM : M ≤ 700000000) : Rn I V H := ⟨h.1, h.2.1, h.2.2.1.le hM, h.2.2.2.2.2.2.2.1, h.2.2.2.2.2.2.2.2⟩
theorem Nw.keep (h : Nw I V H M) (hM : M ≤ M') (f : ∀ q, (4 < q ∧ q < 19) → I' q = I q) (g : ∀ k : Int, 0 ≤ k → k < 308 → I' 201 k = I 201 k) (hd : dg0 I') : Nw I' V H M' :=
  ⟨h.1, h.2.1, h.2.2.1.le hM, h.2.2.2.1.keep fun d a => f _ (by omega), h.2.2.2.2.1.keep fun d a => f _ (by omega), h.2.2.2.2.2.1.keep fun d a => f _ (by omega), hd, Rrw_ext h.1.1 h.1.2.1 g h.2.2.2.2.2.2.2.1, Rhr_ext308 h.1.1 g h.2.2.2.2.2.2.2.2⟩
theorem Hst.keep (h : Hst I V M) (hM : M ≤ M') (hw : SW V V') (f : ∀ q, 41 ≤ q → q < 153 → I' q = I q) (g : I' 200 7 = I 200 7) (k : I' 206 = I 206) : Hst I' V' M' := by
  obtain ⟨hd, n, L, Lr, h1, h2, h3⟩ := h
  refine ⟨hd, n, L, Lr, h1.keepx f, h2.keep g k, fun j hj => ?_⟩
  obtain ⟨a, b, c, d, x⟩ := h3 j hj
  rw [hw.1]
  exact ⟨a, b.le hM, hw.symm.trans c, d, x⟩
theorem Svd.keep (h : Svd I V M) (hM : M ≤ M') (hw : SW V V') (f : ∀ q, 30 ≤ q → q < 41 → I' q = I q) (g0 : I' 0 12 = I 0 12) (g : I' 200 8 = I 200 8) (k : I' 205 = I 205) : Svd I' V' M' := by
  rcases h with h | ⟨a, b, V2, H2, c1, c2, c3, c4, c5, c6, c7, c8⟩
  · exact Or.inl ⟨by rw [g0]; exact h.1, by rw [g]; exact h.2⟩
  · exact Or.inr ⟨by rw [g0]; exact a, by rw [g]; exact b, V2, H2, c1, c2, c3.le hM, hw.symm.trans c4, c5.keep fun d a => f _ (by omega) (by omega), c6.keep fun d a => f _ (by omega) (by omega), c7.keep k, c8.keep k⟩
theorem InO.keep (h : InO I) (f1 : I' 1 = I 1) (f2 : I' 2 = I 2) (g : I' 200 20 = I 200 20) (k : I' 215 = I 215) : InO I' := by
  obtain ⟨l, a, b, c⟩ := h
  exact ⟨l, a.keep f1 f2, ⟨by rw [g]; exact b.1, by rw [k]; exact b.2⟩, c⟩
theorem OuO.keep (h : OuO I) (f1 : I' 3 = I 3) (f2 : I' 4 = I 4) (g : I' 200 31 = I 200 31) (k : I' 216 = I 216) : OuO I' := by
  obtain ⟨l, a, b, c⟩ := h
  exact ⟨l, a.keep f1 f2, ⟨by rw [g]; exact b.1, by rw [k]; exact b.2⟩, c⟩
theorem ErO.keep (h : ErO I) (f1 : I' 0 13 = I 0 13) (f2 : I' 0 14 = I 0 14) (g1 : I' 200 27 = I 200 27) (g2 : I' 200 28 = I 200 28) : ErO I' := by
  unfold ErO at *; rw [f1, f2, g1, g2]; exact h
theorem Qw.keep (h : Qw I) (f : I' 170 = I 170) : Qw I' := fun i hi => by rw [f]; exact h i hi
/-- a question -/
theorem St.q (h : St t I) (k : Kw I I') : St (t + 1) I' := by
  obtain ⟨V, H, n, hs, sv, io, oo, eo, qw⟩ := h
  obtain ⟨k1, k2, k3, k4⟩ := k
  have m := Mt_le t
  exact ⟨V, H, n.keep m (fun q a => k1 q (by omega)) k2 k4, hs.keep m (SW.refl V) (fun q a b => k1 q (by omega)) (k3 7 (by omega)) (k1 206 (by omega)), sv.keep m (SW.refl V) (fun q a b => k1 q (by omega)) (by rw [k1 0 (by omega)]) (k3 8 (by omega)) (k1 205 (by omega)), io.keep (k1 1 (by omega)) (k1 2 (by omega)) (k3 20 (by omega)) (k1 215 (by omega)), oo.keep (k1 3 (by omega)) (k1 4 (by omega)) (k3 31 (by omega)) (k1 216 (by omega)), eo.keep (by rw [k1 0 (by omega)]) (by rw [k1 0 (by omega)]) (k3 27 (by omega)) (k3 28 (by omega)), qw.keep (k1 170 (by omega))⟩
/-- a change -/
theorem St.c {I1 : IM} {hd n : Nat} {L : Nat → Vw × Hw} {Lr : Nat → Int → Int} {row : Int → Int} (hN : Nw I V H (Mt t)) (hH : HI I hd n L ∧ HR I n Lr ∧ ∀ j, j < n → GoodH (vm V) (L j).2 ∧ HB (vm V) (L j).2 (Mt t) ∧ SW V (L j).1 ∧ Rrw (fun _ => Lr j) 0 0 (L j).1 ∧ Rhr (fun _ => Lr j) 0 0 (vm V) (L j).2)
    (sv : Svd I V (Mt t)) (io : InO I) (oo : OuO I) (eo : ErO I) (qw : Qw I)
    (g1 : Cg I I1) (r1 : Rst I1 8 V') (r2 : Rht I1 8 H') (r3 : HI I1 ((hd + 1) % 10) (min (n + 1) 10) (pushL (V, H) L))
    (g2 : Rg I1 I') (w1 : Rrw I' 201 0 V') (w2 : Rhr I' 201 0 (vm V') H') (w3 : ∀ k : Int, 0 ≤ k → k < 308 → row k = I1 201 k) (w4 : HR I' (min (n + 1) 10) (pushR row Lr))
    (hG : Good V') (hGH : GoodH (vm V') H') (hB : HB (vm V') H' (Mt (t + 1))) (hw : SW V V') : St (t + 1) I' := by
  have m := Mt_le t
  obtain ⟨n1, n2, n3, n4, n5, n6, n7, n8, n9⟩ := hN
  have fr : ∀ q, q < 8 ∨ (30 ≤ q ∧ q < 41) ∨ q = 170 ∨ q = 205 ∨ q = 215 ∨ q = 216 → I' q = I q := fun q a => by rw [g2.1 q (by omega), g1.1 q (by omega)]
  have fk : ∀ k, k = 8 ∨ k = 20 ∨ k = 27 ∨ k = 28 ∨ k = 31 → I' 200 k = I 200 k := fun k a => by rw [g2.2 k a, g1.1 200 (by omega)]
  refine ⟨V', H', ⟨hG, hGH, hB, r1.keep fun d a => g2.1 _ (by omega), r2.keep fun d a => g2.1 _ (by omega), hw.wl (n6.keep fun d a => fr _ (by omega)), fun x hx => by rw [g2.1 190 (by omega)]; exact g1.2 x hx, w1, w2⟩, ?_, sv.keep m hw (fun q a b => fr q (by omega)) (by rw [fr 0 (by omega)]) (fk 8 (by omega)) (fr 205 (by omega)), io.keep (fr 1 (by omega)) (fr 2 (by omega)) (fk 20 (by omega)) (fr 215 (by omega)), oo.keep (fr 3 (by omega)) (fr 4 (by omega)) (fk 31 (by omega)) (fr 216 (by omega)), eo.keep (by rw [fr 0 (by omega)]) (by rw [fr 0 (by omega)]) (fk 27 (by omega)) (fk 28 (by omega)), qw.keep (fr 170 (by omega))⟩
  refine ⟨_, _, pushL (V, H) L, pushR row Lr, r3.keepx fun q a b => g2.1 q (by omega), w4, fun j hj => ?_⟩
  rw [hw.1]
  cases j with
  | zero =>
    have e : ∀ k : Int, 0 ≤ k → k < 308 → row k = I 201 k := fun k a b => by rw [w3 k a b, g1.1 201 (by omega)]
    exact ⟨n2, n3.le m, hw.symm, Rrw_tr (I := I) (r := 201) n1.1 n1.2.1 e n8, Rhr_tr (I := I) (r := 201) n1.1 e n9⟩
  | succ j =>
    obtain ⟨a, b, c, d, x⟩ := hH.2.2 j (by omega)
    exact ⟨a, b.le m, hw.symm.trans c, d, x⟩
end Inv63
