section Law64b
variable {e t L : Nat} {I I1 I2 J : IM} {Q : Post} {xs : Nat → Int32} {Jn : LT} {V : Vw} {H : Hw} {l : List Int}
theorem St.i (hs : St t I) (f1 : ∀ q, q ≠ 1 → q ≠ 2 → I1 q = I q) (T1 : Tx I1 1 2 l) (f2 : Fi I1 I2) (T2 : Ty I2 20 215 (l.map sb)) (hB : By l) : St (t + 1) I2 := by
  obtain ⟨V, H, n, hh, sv, io, oo, eo, qw⟩ := hs
  have m := Mt_le t
  have fr : ∀ q, q ≠ 1 → q ≠ 2 → q ≠ 200 → q ≠ 215 → I2 q = I q := fun q a b c d => by rw [f2.1 q c d, f1 q a b]
  have fk : ∀ k, k ≠ 0 → k ≠ 20 → I2 200 k = I 200 k := fun k a b => by rw [f2.2 k a b, f1 200 (by omega) (by omega)]
  refine ⟨V, H, n.keep m (fun q a => fr q (by omega) (by omega) (by omega) (by omega)) (fun k a b => by rw [fr 201 (by omega) (by omega) (by omega) (by omega)]) (fun x hx => by rw [fr 190 (by omega) (by omega) (by omega) (by omega)]; exact n.2.2.2.2.2.2.1 x hx), hh.keep m (SW.refl V) (fun q a b => fr q (by omega) (by omega) (by omega) (by omega)) (fk 7 (by omega) (by omega)) (fr 206 (by omega) (by omega) (by omega) (by omega)), sv.keep m (SW.refl V) (fun q a b => fr q (by omega) (by omega) (by omega) (by omega)) (by rw [fr 0 (by omega) (by omega) (by omega) (by omega)]) (fk 8 (by omega) (by omega)) (fr 205 (by omega) (by omega) (by omega) (by omega)), ⟨l, T1.keep (f2.1 1 (by omega) (by omega)) (f2.1 2 (by omega) (by omega)), T2, hB⟩, oo.keep (fr 3 (by omega) (by omega) (by omega) (by omega)) (fr 4 (by omega) (by omega) (by omega) (by omega)) (fk 31 (by omega) (by omega)) (fr 216 (by omega) (by omega) (by omega) (by omega)), eo.keep (by rw [fr 0 (by omega) (by omega) (by omega) (by omega)]) (by rw [fr 0 (by omega) (by omega) (by omega) (by omega)]) (fk 27 (by omega) (by omega)) (fk 28 (by omega) (by omega)), qw.keep (fr 170 (by omega) (by omega) (by omega) (by omega))⟩
theorem St.o (hs : St t I) (f1 : Cx I I1) (T1 : Tx I1 3 4 l) (f2 : Ry I1 I2) (T2 : Ty I2 31 216 l) (hl : l.length ≤ 400) : St (t + 1) I2 := by
  obtain ⟨V, H, n, hh, sv, io, oo, eo, qw⟩ := hs
  have m := Mt_le t
  have fr : ∀ q, q < 3 ∨ (4 < q ∧ q < 19) ∨ (30 ≤ q ∧ q < 153) ∨ q = 170 ∨ q = 201 ∨ q = 205 ∨ q = 206 ∨ q = 215 → I2 q = I q := fun q a => by rw [f2.1 q (by omega), f1.1 q (by omega)]
  have fk : ∀ k, k = 7 ∨ k = 8 ∨ k = 20 ∨ k = 27 ∨ k = 28 → I2 200 k = I 200 k := fun k a => by rw [f2.2 k a, f1.1 200 (by omega)]
  refine ⟨V, H, n.keep m (fun q a => fr q (by omega)) (fun k a b => by rw [fr 201 (by omega)]) (fun x hx => by rw [f2.1 190 (by omega)]; exact f1.2 x hx), hh.keep m (SW.refl V) (fun q a b => fr q (by omega)) (fk 7 (by omega)) (fr 206 (by omega)), sv.keep m (SW.refl V) (fun q a b => fr q (by omega)) (by rw [fr 0 (by omega)]) (fk 8 (by omega)) (fr 205 (by omega)), io.keep (fr 1 (by omega)) (fr 2 (by omega)) (fk 20 (by omega)) (fr 215 (by omega)), ⟨l, T1.keep (f2.1 3 (by omega)) (f2.1 4 (by omega)), T2, hl⟩, eo.keep (by rw [fr 0 (by omega)]) (by rw [fr 0 (by omega)]) (fk 27 (by omega)) (fk 28 (by omega)), qw.keep (fr 170 (by omega))⟩
theorem four_mem {w : Int} : ∀ c ∈ four w, 0 ≤ c ∧ c < 256 := by
  intro c hc
  simp only [four, List.mem_cons, List.not_mem_nil, or_false] at hc
  rcases hc with rfl | rfl | rfl | rfl <;> exact byt_rg w _
theorem By_fd {a b c d f : Int} (h : By l) : By (fdL l a b c d f) := by
  unfold fdL
  split
  · rename_i hl
    refine ⟨by rw [List.length_append, fdl_len]; omega, fun x hx => ?_⟩
    rcases List.mem_append.mp hx with hx | hx
    · exact h.2 x hx
    · unfold fdl at hx
      rcases List.mem_append.mp hx with hx | hx
      · rcases List.mem_append.mp hx with hx | hx
        · rcases List.mem_append.mp hx with hx | hx
          · rcases List.mem_append.mp hx with hx | hx
            · exact four_mem x hx
            · exact four_mem x hx
          · exact four_mem x hx
        · exact four_mem x hx
      · exact four_mem x hx
  · exact h
theorem By_tr {a : Int} (h : By l) : By (trL l a) := by
  unfold trL
  split
  · exact ⟨by rw [List.length_take]; have := h.1; omega, fun x hx => h.2 x (List.mem_of_mem_take hx)⟩
  · exact h
theorem By_nil : By [] := ⟨by simp, fun c h => by simp at h⟩
theorem k0 (hs : St t I) (he : e ∈ stLs) (hx : 6 * t + 6 ≤ L ∧ L ≤ 3072) (hF : ∀ (I' J' : IM) (e' : Nat), e' ∈ stLs → St (t + 1) I' → Jn 0 200 217 (i32 ((6 * t : Nat) : Int) + 6) (ME e' I' J') Q) : cl0 L xs Jn 0 200 217 (i32 ((6 * t : Nat) : Int)) (ME e I J) Q := by
  obtain ⟨V, H, hN, hh, sv, ⟨l, T1, T2, hB⟩, oo, eo, qw⟩ := id hs
  unfold cl0
  refine sl hx (k := 1) (by omega) rfl (sl hx (k := 2) (by omega) rfl (sl hx (k := 3) (by omega) rfl (sl hx (k := 4) (by omega) rfl (sl hx (k := 5) (by omega) rfl ?_))))
  refine x_ob rfl (x_cI (cq_feed T1 hB.1 _ fun I1 f1 T3 => ?_))
  dsimp only
  refine sl hx (k := 1) (by omega) rfl (sl hx (k := 2) (by omega) rfl (sl hx (k := 3) (by omega) rfl (sl hx (k := 4) (by omega) rfl (sl hx (k := 5) (by omega) rfl ?_))))
  refine x_ob rfl (x_cI (rq_feed (l := l) ⟨by rw [f1 200 (by omega) (by omega)]; exact T2.1, fun k hk => by rw [f1 215 (by omega) (by omega)]; exact T2.2 k hk⟩ hB.1 (ar_IR xs t 1) (ar_IR xs t 2) (ar_IR xs t 3) (ar_IR xs t 4) (ar_IR xs t 5) _ fun I2 f2 t2 T4 => ?_))
  exact x_brr rfl (hF I2 J e he (hs.i f1 T3 f2 T4 (By_fd hB)))
theorem k1 (hs : St t I) (he : e ∈ stLs) (hx : 6 * t + 6 ≤ L ∧ L ≤ 3072) (hF : ∀ (I' J' : IM) (e' : Nat), e' ∈ stLs → St (t + 1) I' → Jn 0 200 217 (i32 ((6 * t : Nat) : Int) + 6) (ME e' I' J') Q) : cl1 L xs Jn 0 200 217 (i32 ((6 * t : Nat) : Int)) (ME e I J) Q := by
  obtain ⟨V, H, hN, hh, sv, ⟨l, T1, T2, hB⟩, oo, eo, qw⟩ := id hs
  unfold cl1
  refine sl hx (k := 1) (by omega) rfl ?_
  refine x_ob rfl (x_cI (cq_truncate T1 hB.1 (ar_IR xs t 1) _ fun I1 f1 T3 => ?_))
  dsimp only
  refine sl hx (k := 1) (by omega) rfl ?_
  refine x_ob rfl (x_cI (rq_truncate (l := l) ⟨by rw [f1 200 (by omega) (by omega)]; exact T2.1, fun k hk => by rw [f1 215 (by omega) (by omega)]; exact T2.2 k hk⟩ hB.1 (ar_IR xs t 1) _ fun I2 f2 t2 T4 => ?_))
  exact x_brr rfl (hF I2 J e he (hs.i f1 T3 f2 T4 (By_tr hB)))
theorem k9 (hs : St t I) (he : e ∈ stLs) (hx : 6 * t + 6 ≤ L ∧ L ≤ 3072) (hF : ∀ (I' J' : IM) (e' : Nat), e' ∈ stLs → St (t + 1) I' → Jn 0 200 217 (i32 ((6 * t : Nat) : Int) + 6) (ME e' I' J') Q) : cl9 L xs Jn 0 200 217 (i32 ((6 * t : Nat) : Int)) (ME e I J) Q := by
  obtain ⟨V, H, hN, hh, sv, ⟨l, T1, T2, hB⟩, oo, eo, qw⟩ := id hs
  have hM : Mt t ≤ 700000000 := by unfold Mt; omega
  unfold cl9
  refine x_ob rfl (x_cI (cq_find (hN.cn hM) T1 hB _ fun I1 f1 T3 => ?_))
  dsimp only
  have rn := hN.rn hM
  have rn1 : Rn I1 V H := ⟨rn.1, rn.2.1, rn.2.2.1, rn.2.2.2.1.keep (f1 201 (by omega) (by omega)), rn.2.2.2.2.keep (f1 201 (by omega) (by omega))⟩
  refine x_ob rfl (x_cI (rq_find rn1 (l := l) ⟨by rw [f1 200 (by omega) (by omega)]; exact T2.1, fun k hk => by rw [f1 215 (by omega) (by omega)]; exact T2.2 k hk⟩ hB _ fun I2 f2 t2 T4 => ?_))
  exact x_brr rfl (hF I2 J e he (hs.i f1 T3 f2 T4 By_nil))
theorem Cx.rn (f : Cx I I1) (h : Rn I V H) : Rn I1 V H := ⟨h.1, h.2.1, h.2.2.1, h.2.2.2.1.keep (f.1 201 (by omega)), h.2.2.2.2.keep (f.1 201 (by omega))⟩
theorem plA_len (hG : Good V) {a : Int} (h : plA V a = some l) : l.length ≤ 400 := by
  unfold plA at h
  split at h
  · rename_i hc
    injection h with h
    subst h
    obtain ⟨k1, k2, k3⟩ := lke_ok hc.1 hc.2
    have hE := (isL_E k2).1
    have D := lD_ok hG hE
    have lr := lM_rg hG hE
    have lc := lC_bd hG hE
    have p := plT_len hG lr (lD V (lke V a) + 1) (by omega)
    have n := num_len (v := lC V (lke V a)) (by omega)
    have h1 : (if clo V (vS V 3) (lke V a) = true then ([] : List Int) else [33]).length ≤ 1 := by split <;> simp
    simp only [List.length_append, List.length_cons, List.length_nil]
    omega
  · cases h
theorem psA_len (hG : Good V) {a : Int} (h : psA V a = some l) : l.length ≤ 400 := by
  unfold psA at h
  split at h
  · rename_i hc
    injection h with h
    subst h
    have g := gd_s hG hc.1 hc.2
    have n1 := (gd_nm hG g.1.1 g.1.2).2.1
    have n2 := (gd_nm hG g.2.1.1 g.2.1.2).2.1
    have s12 := str_ok 12 (by omega) (by omega)
    have s13 := str_ok 13 (by omega) (by omega)
    have s14 := str_ok 14 (by omega) (by omega)
    have s15 := str_ok 15 (by omega) (by omega)
    have s16 := str_ok 16 (by omega) (by omega)
    have a1 := num_len (v := vG V 3 a) (by omega)
    have a2 := num_len (v := vG V 4 a) (by omega)
    have l2 : (if vG V 5 a = 0 then [] else strI 12).length ≤ 6 := by
      split
      · exact Nat.zero_le _
      · omega
    have l3 : (if vG V 2 a = 0 then strI 14 else strI 15).length ≤ 6 := by split <;> omega
    simp only [List.length_append, List.length_cons, List.length_nil, nam_len]
    omega
  · cases h
theorem k47 (hs : St t I) (he : e ∈ stLs) (hx : 6 * t + 6 ≤ L ∧ L ≤ 3072) (hF : ∀ (I' J' : IM) (e' : Nat), e' ∈ stLs → St (t + 1) I' → Jn 0 200 217 (i32 ((6 * t : Nat) : Int) + 6) (ME e' I' J') Q) : cl47 L xs Jn 0 200 217 (i32 ((6 * t : Nat) : Int)) (ME e I J) Q := by
  obtain ⟨V, H, hN, _⟩ := id hs
  have hM : Mt t ≤ 700000000 := by unfold Mt; omega
  have m := hN.1.1
  have hl := pmT_len hN.1 (hN.2.2.1.le hM) (vm V) (Nat.le_refl _)
  unfold cl47
  refine x_ob rfl (x_cI (cq_printMarks (hN.cn hM) he _ (fun l hl1 I1 e1 he1 c1 T1 => ?_) (fun h => by cases h)))
  injection hl1 with hl1
  subst hl1
  dsimp only
  refine x_ob rfl (x_cI (rq_printMarks (c1.rn (hN.rn hM)) _ (fun l hl2 I2 y2 T2 t2 => ?_) (fun h => by cases h)))
  injection hl2 with hl2
  subst hl2
  exact x_brr rfl (hF I2 J e1 he1 (hs.o c1 T1 y2 T2 (by omega)))
theorem k48 (hs : St t I) (he : e ∈ stLs) (hx : 6 * t + 6 ≤ L ∧ L ≤ 3072) (hF : ∀ (I' J' : IM) (e' : Nat), e' ∈ stLs → St (t + 1) I' → Jn 0 200 217 (i32 ((6 * t : Nat) : Int) + 6) (ME e' I' J') Q) : cl48 L xs Jn 0 200 217 (i32 ((6 * t : Nat) : Int)) (ME e I J) Q := by
  obtain ⟨V, H, hN, _⟩ := id hs
  have hM : Mt t ≤ 700000000 := by unfold Mt; omega
  unfold cl48
  refine sl hx (k := 1) (by omega) rfl (x_cI (hs_printLoop (cq_printLoop (hN.cn hM) (ar_IR xs t 1)) (fun l hl1 I1 e1 J1 he1 cx1 T1 hj => ?_) (fun hn I1 e1 he1 f1 => ?_)))
  · dsimp only
    refine sl hx (k := 1) (by omega) rfl (x_ob rfl (x_cI (rq_printLoop (cx1.rn (hN.rn hM)) (ar_IR xs t 1) _ (fun l2 hl2 I2 y2 T2 t2 => ?_) (fun h => by rw [hl1] at h; cases h))))
    rw [hl1] at hl2
    injection hl2 with hl2
    subst hl2
    exact tB (r := .inl (l.length : Int)) (f := c1) ⟨rfl, hj⟩ ⟨rfl, t2⟩ (hF I2 J1 e1 he1 (hs.o cx1 T1 y2 T2 (plA_len hN.1 hl1)))
  · dsimp only
    refine sl hx (k := 1) (by omega) rfl (x_ob rfl (x_cI (rq_printLoop (f1.rn (hN.rn hM)) (ar_IR xs t 1) _ (fun l2 hl2 I2 y2 T2 t2 => by rw [hn] at hl2; cases hl2) (fun _ I2 v f2 t2 => ?_))))
    exact tB (r := .inr 1) (f := c1) (c := 1) ⟨rfl, by omega⟩ t2 (hF I2 J e1 he1 (hs.q (f1.kw f2.w)))
theorem k49 (hs : St t I) (he : e ∈ stLs) (hx : 6 * t + 6 ≤ L ∧ L ≤ 3072) (hF : ∀ (I' J' : IM) (e' : Nat), e' ∈ stLs → St (t + 1) I' → Jn 0 200 217 (i32 ((6 * t : Nat) : Int) + 6) (ME e' I' J') Q) : cl49 L xs Jn 0 200 217 (i32 ((6 * t : Nat) : Int)) (ME e I J) Q := by
  obtain ⟨V, H, hN, _⟩ := id hs
  have hM : Mt t ≤ 700000000 := by unfold Mt; omega
  unfold cl49
  refine sl hx (k := 1) (by omega) rfl (x_cI (hs_printSight (cq_printSight (hN.cn hM) he (ar_IR xs t 1)) (fun l hl1 I1 e1 J1 he1 cx1 T1 hj => ?_) (fun hn I1 e1 he1 f1 => ?_)))
  · dsimp only
    refine sl hx (k := 1) (by omega) rfl (x_ob rfl (x_cI (rq_printSight (cx1.rn (hN.rn hM)) (ar_IR xs t 1) _ (fun l2 hl2 I2 y2 T2 t2 => ?_) (fun h => by rw [hl1] at h; cases h))))
    rw [hl1] at hl2
    injection hl2 with hl2
    subst hl2
    exact tB (r := .inl (l.length : Int)) (f := c1) ⟨rfl, hj⟩ ⟨rfl, t2⟩ (hF I2 J1 e1 he1 (hs.o cx1 T1 y2 T2 (psA_len hN.1 hl1)))
  · dsimp only
    refine sl hx (k := 1) (by omega) rfl (x_ob rfl (x_cI (rq_printSight (f1.rn (hN.rn hM)) (ar_IR xs t 1) _ (fun l2 hl2 I2 y2 T2 t2 => by rw [hn] at hl2; cases hl2) (fun _ I2 v f2 t2 => ?_))))
    exact tB (r := .inr 1) (f := c1) (c := 1) ⟨rfl, by omega⟩ t2 (hF I2 J e1 he1 (hs.q (f1.kw f2.w)))
theorem k2 (hs : St t I) (he : e ∈ stLs) (hx : 6 * t + 6 ≤ L ∧ L ≤ 3072) (hF : ∀ (I' J' : IM) (e' : Nat), e' ∈ stLs → St (t + 1) I' → Jn 0 200 217 (i32 ((6 * t : Nat) : Int) + 6) (ME e' I' J') Q) : cl2 L xs Jn 0 200 217 (i32 ((6 * t : Nat) : Int)) (ME e I J) Q := by
  obtain ⟨V, H, hN, hh, sv, ⟨l, T1, T2, hB⟩, oo, eo, qw⟩ := id hs
  have hM : Mt t ≤ 700000000 := by unfold Mt; omega
  have m := Mt_le t
  have rn := hN.rn hM
  unfold cl2
  refine x_ob rfl (x_cI (cq_parse (hN.cn hM) he T1 hB qw (fun P hp I1 f1 W5 R8 H8 z41 z12 z13 z14 z11 => ?_) (fun c s hp I1 f1 g1 z12 z13 z14 z11 => ?_)))
  · dsimp only
    have rn1 : Rn I1 V H := ⟨rn.1, rn.2.1, rn.2.2.1, rn.2.2.2.1.keep (f1.1 201 (by omega)), rn.2.2.2.2.keep (f1.1 201 (by omega))⟩
    refine x_ob rfl (x_cI (rq_parse rn1 (l := l) ⟨by rw [f1.1 200 (by omega)]; exact T2.1, fun k hk => by rw [f1.1 215 (by omega)]; exact T2.2 k hk⟩ hB (fun P2 hp2 I2 f2 W2 H2 y7 y8 y27 y28 => ?_) (fun c s hp2 => by rw [hp] at hp2; cases hp2)))
    rw [hp] at hp2
    injection hp2 with hp2
    subst hp2
    have G := (pa_ok 901 (P0 l) GP_0 (by have := hB.1; omega) P hp).1
    refine x_brr rfl (hF I2 J e he ?_)
    have fr : ∀ q, (1 < q ∧ q < 5) ∨ (19 ≤ q ∧ q < 41) ∨ (41 < q ∧ q < 153) ∨ (169 < q ∧ q < 200) ∨ q = 205 ∨ q = 206 ∨ q = 215 ∨ q = 216 → I2 q = I q := fun q a => by rw [f2.1 q (by omega), f1.1 q (by omega)]
    have fc : ∀ q, q < 200 → I2 q = I1 q := fun q a => f2.1 q (by omega)
    obtain ⟨hd, n, Ls, Lr, hI, hR, _⟩ := hh
    refine ⟨P.1, P.2.1, ⟨G.1, G.2.1, G.2.2.1.le (by unfold Mt; omega), R8.keep fun d a => fc _ (by omega), H8.keep fun d a => fc _ (by omega), W5.keep fun d a => fc _ (by omega), fun x hx => by rw [fr 190 (by omega)]; exact hN.2.2.2.2.2.2.1 x hx, W2, H2⟩, ⟨hd, 0, Ls, Lr, ⟨by rw [fc 41 (by omega)]; exact z41, by rw [fc 41 (by omega), f1.2.2]; exact hI.2.1, by omega, hI.2.2.2.1, fun j hj => absurd hj (Nat.not_lt_zero j)⟩, ⟨y7, by omega, fun j hj => absurd hj (Nat.not_lt_zero j)⟩, fun j hj => absurd hj (Nat.not_lt_zero j)⟩, Or.inl ⟨by rw [fc 0 (by omega)]; exact z12, y8⟩, ⟨[], ⟨by rw [fc 1 (by omega)]; exact z11, fun k hk => absurd hk (Nat.not_lt_zero k)⟩, ⟨f2.2.2.2, fun k hk => absurd hk (Nat.not_lt_zero k)⟩, By_nil⟩, oo.keep (fr 3 (by omega)) (fr 4 (by omega)) (by rw [f2.2.1, f1.1 200 (by omega)]) (fr 216 (by omega)), ⟨by rw [fc 0 (by omega), z13, y27], by rw [fc 0 (by omega), z14, y28]⟩, qw.keep (fr 170 (by omega))⟩
  · dsimp only
    have rn1 : Rn I1 V H := ⟨rn.1, rn.2.1, rn.2.2.1, rn.2.2.2.1.keep (f1.1 201 (by omega)), rn.2.2.2.2.keep (f1.1 201 (by omega))⟩
    refine x_ob rfl (x_cI (rq_parse rn1 (l := l) ⟨by rw [f1.1 200 (by omega)]; exact T2.1, fun k hk => by rw [f1.1 215 (by omega)]; exact T2.2 k hk⟩ hB (fun P2 hp2 => by rw [hp] at hp2; cases hp2) (fun c2 s2 hp2 I2 f2 r2 y7 y8 y27 y28 => ?_)))
    rw [hp] at hp2
    injection hp2 with hp2
    injection hp2 with hc2 hs2
    subst hc2
    subst hs2
    refine x_brr rfl (hF I2 J e he ?_)
    have fr : ∀ q, (1 < q ∧ q < 153) ∨ (169 < q ∧ q < 200) ∨ q = 205 ∨ q = 206 ∨ q = 215 ∨ q = 216 → I2 q = I q := fun q a => by
      rw [f2.1 q (by omega)]
      by_cases h : 5 ≤ q ∧ (q < 19 ∨ q = 41)
      · exact g1 q h.1 h.2
      · exact f1.1 q (by omega)
    have fc : ∀ q, q < 200 → I2 q = I1 q := fun q a => f2.1 q (by omega)
    refine ⟨V, H, hN.keep m (fun q a => fr q (by omega)) (fun k a b => by rw [r2 k a b, f1.1 201 (by omega)]) (fun x hx => by rw [fr 190 (by omega)]; exact hN.2.2.2.2.2.2.1 x hx), hh.keep m (SW.refl V) (fun q a b => fr q (by omega)) (by rw [y7, f1.1 200 (by omega)]) (fr 206 (by omega)), sv.keep m (SW.refl V) (fun q a b => fr q (by omega)) (by rw [fc 0 (by omega)]; exact z12) (by rw [y8, f1.1 200 (by omega)]) (fr 205 (by omega)), ⟨[], ⟨by rw [fc 1 (by omega)]; exact z11, fun k hk => absurd hk (Nat.not_lt_zero k)⟩, ⟨f2.2.2.2, fun k hk => absurd hk (Nat.not_lt_zero k)⟩, By_nil⟩, oo.keep (fr 3 (by omega)) (fr 4 (by omega)) (by rw [f2.2.1, f1.1 200 (by omega)]) (fr 216 (by omega)), ⟨by rw [fc 0 (by omega), z13, y27], by rw [fc 0 (by omega), z14, y28]⟩, qw.keep (fr 170 (by omega))⟩
end Law64b
