section Heap
variable {Γ : CT} {own : String} {cc : ByteArray} {nL cn sn pc : Nat} {ret : Option FieldType} {rm : Room} {loc : List (Nat × Value)} {stk : List Value} {f : Sem}
theorem Hld.at {H : Heap} {locs : List Loc} {μ : Mem} {q : Nat} (h : q < μ.1) : (GW (kG Γ) μ)[q]? = some (kD Γ q, cellE (kG Γ).2.1 (kD Γ) μ q) := wld_at h
theorem slotV_I {ad : Nat → Nat} {μ : Mem} {ci q k : Nat} (h : isR (fty ci k) = false) : slotV ad μ ci q k = .int (mI μ q k) := by simp [slotV, h]
theorem slotV_R {ad : Nat → Nat} {μ : Mem} {ci q k r : Nat} (h : isR (fty ci k) = true) (hr : mR μ q k = some r) : slotV ad μ ci q k = .ref (ad r) := by simp [slotV, h, hr, va_rf]
theorem q_getI (hC : Ctx Γ own cc nL ret rm) {index ci k q : Nat} {f : Int32 → Sem} (hci : ci < 12) (hk : k < clN ci) (hty : isR (fty ci k) = false) (hw : Cond.fieldLink own index (clT ci k).1 (clT ci k).2.1 (clT ci k).2.2.1 ∈ gw) (d : decode cc pc = .ok (.getfield index, 3))
    (kk : ∀ v, Cor Γ nL cn sn (pc + 3) loc (.int v :: stk) (f v)) : Cor Γ nL cn sn pc loc (.ref q :: stk) (gI ci k q f) := by
  intro Q μ H locs ls ⟨h1, h2, h3⟩ hH hL
  refine va_get (D := (kG Γ).1) (ci := ci) (C := clR ci) (T := clT ci) (N := clN ci) (v := .int (mI μ q k)) hC.1 hC.2.1 hC.2.2.2.2.2.1 (clT_lay hci) hC.2.2.2.2.1 hC.2.2.2.2.2.2.2.2.1 hH.1 q (by rw [wld_at h2, cellE_obj h1]) (vwCl_at hci) k hk (hC.2.2.2.2.2.1 _ hw) (fun _ h9 => h9) (by rw [objF_at hk, slotV_I hty]) d (kk _ Q μ H locs ls h3 hH hL)
theorem q_getR (hC : Ctx Γ own cc nL ret rm) {index ci k q : Nat} {f : Nat → Sem} (hci : ci < 12) (hk : k < clN ci) (hty : isR (fty ci k) = true) (hw : Cond.fieldLink own index (clT ci k).1 (clT ci k).2.1 (clT ci k).2.2.1 ∈ gw) (d : decode cc pc = .ok (.getfield index, 3))
    (kk : ∀ v, Cor Γ nL cn sn (pc + 3) loc (.ref v :: stk) (f v)) : Cor Γ nL cn sn pc loc (.ref q :: stk) (gR ci k q f) := by
  intro Q μ H locs ls ⟨h1, h2, r, hr, h3⟩ hH hL
  refine va_get (D := (kG Γ).1) (ci := ci) (C := clR ci) (T := clT ci) (N := clN ci) (v := .ref (kD Γ r)) hC.1 hC.2.1 hC.2.2.2.2.2.1 (clT_lay hci) hC.2.2.2.2.1 hC.2.2.2.2.2.2.2.2.1 hH.1 q (by rw [wld_at h2, cellE_obj h1]) (vwCl_at hci) k hk (hC.2.2.2.2.2.1 _ hw) (fun _ h9 => h9) (by rw [objF_at hk, slotV_R hty hr]) d (kk _ Q μ H locs ls h3 hH hL)
theorem hw' {w : Cond} {args : Array Value} {s : State} (hts : ∀ w ∈ gw, w.before args s = true) (h : w ∈ gw) : w.before args s = true := hts w h
/-- a field is written: the world with its new list of fields, the heap as large as before -/
theorem put_x {p : Program} {l : Launch} {e : Env} {R : Room} {s : State} {m : MethodId} {args : Array Value} {below : List Frame} {meth : Method} {c : Code} {H H0 : Heap} {locs : List Loc} {Q : State → Prop} {ls : Array Slot} {D : va_G} {A : Nat → Prop} {a : Nat} {tys : List (ClassId × FieldType)} {ws : va_W}
    (hx : p.tables.exec = Jvm.exec) (hb : c.code = cc) (hts : ∀ w ∈ gw, w.before args s = true) (hown : s.vm.findClass own = some m.cls) (hK : va_K D vwCl tys s) (hP : va_P D vwCl ws H) (hD : va_D A ws) (hS : va_S A H0 H locs) {q ci k index : Nat} {fs : List Value} {v : Value} {ty : FieldType} (hci : ci < 12) (hk : k < clN ci) (he : ws[q]? = some (a, .inr (ci, fs))) (hl : k < fs.length)
    (hfin : (clT ci k).2.2.2 = false ∨ (meth.name = "<init>" ∧ (clT ci k).1 = own ∧ (clT ci k).2.2.2 = true)) (hty : fty ci k = ty) (hn : narrow ty v = v) (hfit : fits ty v = true) (hw : Cond.fieldLink own index (clT ci k).1 (clT ci k).2.1 (clT ci k).2.2.1 ∈ gw) (d : decode cc pc = .ok (.putfield index, 3))
    (kk : ∀ (H1 : Heap) (locs1 : List Loc), H1.size = H.size → va_P D vwCl (ws.set q (a, .inr (ci, fs.set k v))) H1 → va_D A (ws.set q (a, .inr (ci, fs.set k v))) → va_S A H0 H1 locs1 → W p l e R s m args below meth c H1 locs1 cn sn Q (F0 m (pc + 3) ls stk)) : W p l e R s m args below meth c H locs cn sn Q (F0 m pc ls (v :: .ref a :: stk)) := by
  have hz : ∀ (H1 : Heap) (locs1 : List Loc), H1.size = H.size → va_P D vwCl (ws.set q (a, .inr (ci, fs.set k v))) H1 → va_D A (ws.set q (a, .inr (ci, fs.set k v))) → va_S A H0 H1 locs1 → W p l e R s m args below meth c H1 locs1 cn sn Q (F0 m (pc + 3) ls stk) := kk
  have hd : parseFieldDescriptor (clT ci k).2.2.1 = some ty := by rw [clT_ok hci k hk, hty]
  have hap := va_apart (own := own) hts (clT_lay hci) (fty ci) (clT_ok hci) (clT_nm hci) hK (vwCl_at hci)
  obtain ⟨r, h1, cell, q1, q2, q3, q4⟩ := hP q _ he
  cases Option.some.inj (h1.symm.trans (vwCl_at hci))
  obtain ⟨hSl, hfc, kC, hkC, hkind⟩ := hK.1 ci _ (vwCl_at hci)
  obtain ⟨cf, kf, fi, g, hi, hsl⟩ := hSl k hk
  have hst := (u_facts hfc hkC (u_lays hts (clT_lay hci) hk) hi).1
  have hlay := hts _ (clT_lay hci _ (u_in_lay hk))
  unfold u_lay at hlay
  have tail : ∀ H1 : Heap, H1[a]? = some (cell.setSlot g.slot v) → H1.size = H.size → (∀ z, z ≠ a → H1[z]? = H[z]?) → W p l e R s m args below meth c H1 (locs ++ [⟨a, g.slot⟩]) cn sn Q (F0 m (pc + 3) ls stk) := by
    intro H1 e1 e2 e3
    rw [hsl] at e1 ⊢
    exact hz H1 _ e2 (hP.set hD he ⟨_, vwCl_at hci, t_OB.to (V := updV (vp_V fs) k v) ⟨_, e1, q2, q3, t_set q4 hap hk v⟩ (fun j _ => vp_updV_set hl v j)⟩ e3) (hD.set he) (hS.put e2 e3 (hD.2 q _ he))
  rcases hfin with hfin | ⟨hin, hdecl, hfin⟩
  · rw [if_neg (by rw [hfin]; decide)] at hlay
    exact W.putK hx hb (f := g) ⟨hown, hw' hts hw, ⟨_, _, _, hi⟩, hst⟩ (by rw [q2]; exact u_store hfc hkC hkind hlay hi hd hn hfit) q1 q3 (by rw [hsl]; exact k2_hasslot (q4 k hk)) rfl rfl d tail
  · rw [if_pos hfin] at hlay
    have hcf : m.cls = cf := by
      obtain ⟨_, _, c', _, _, _, -, -, hf', -, -, -, hown2, -⟩ := Cond.laysFinal_spec hlay
      have e1 : c' = cf := by have := hi.symm.trans hf'; simp at this; exact this.1.symm
      rw [hdecl] at hown2
      rw [← e1]; exact Option.some.inj (hown.symm.trans hown2)
    exact W.putFinK hx hb hown (hw' hts hw) hi hst hcf hin (by rw [q2]; exact u_fits hfc hkC hkind (Or.inr hlay) hi hd hn hfit) q1 q3 (by rw [hsl]; exact k2_hasslot (q4 k hk)) rfl rfl d tail
theorem q_putI (hC : Ctx Γ own cc nL ret rm) {index ci k q : Nat} {v : Int32} (hci : ci < 12) (hk : k < clN ci) (hty : fty ci k = .int) (hfin : (clT ci k).2.2.2 = false) (hw : Cond.fieldLink own index (clT ci k).1 (clT ci k).2.1 (clT ci k).2.2.1 ∈ gw) (d : decode cc pc = .ok (.putfield index, 3))
    (kk : Cor Γ nL cn sn (pc + 3) loc stk f) : Cor Γ nL cn sn pc loc (.int v :: .ref q :: stk) (pI ci k q v f) := by
  intro Q μ H locs ls ⟨h1, h2, h3⟩ hH hL
  have hr : isR (fty ci k) = false := by rw [hty]; rfl
  refine put_x (D := (kG Γ).1) (v := .int v) hC.1 hC.2.1 hC.2.2.2.2.2.1 hC.2.2.2.2.1 hC.2.2.2.2.2.2.2.2.1 hH.1 hH.2.1 hH.2.2.1 hci hk (by rw [wld_at h2, cellE_obj h1]) (by rw [objF_len]; exact hk) (Or.inl hfin) hty rfl rfl hw d (fun H1 locs1 g0 g1 g2 g3 => ?_)
  rw [wld_wI_obj h1 h2 hr] at g1 g2
  exact kk Q (wI μ q k v) H1 locs1 ls h3 ⟨g1, g2, g3, fun hn => g0.trans (hH.2.2.2 hn)⟩ hL
theorem q_putZ (hC : Ctx Γ own cc nL ret rm) {index ci k q : Nat} {v : Int32} (hci : ci < 12) (hk : k < clN ci) (hty : fty ci k = .boolean) (hfin : (clT ci k).2.2.2 = false) (hw : Cond.fieldLink own index (clT ci k).1 (clT ci k).2.1 (clT ci k).2.2.1 ∈ gw) (d : decode cc pc = .ok (.putfield index, 3))
    (kk : Cor Γ nL cn sn (pc + 3) loc stk f) : Cor Γ nL cn sn pc loc (.int v :: .ref q :: stk) (pZ ci k q v f) := by
  intro Q μ H locs ls ⟨h1, h2, hv, h3⟩ hH hL
  have hr : isR (fty ci k) = false := by rw [hty]; rfl
  refine put_x (D := (kG Γ).1) (v := .int v) hC.1 hC.2.1 hC.2.2.2.2.2.1 hC.2.2.2.2.1 hC.2.2.2.2.2.2.2.2.1 hH.1 hH.2.1 hH.2.2.1 hci hk (by rw [wld_at h2, cellE_obj h1]) (by rw [objF_len]; exact hk) (Or.inl hfin) hty (by rcases hv with rfl | rfl <;> rfl) (by rcases hv with rfl | rfl <;> rfl) hw d (fun H1 locs1 g0 g1 g2 g3 => ?_)
  rw [wld_wI_obj h1 h2 hr] at g1 g2
  exact kk Q (wI μ q k v) H1 locs1 ls h3 ⟨g1, g2, g3, fun hn => g0.trans (hH.2.2.2 hn)⟩ hL
/-- a reference into a field: a final one in a constructor too -/
theorem q_putR (hC : Ctx Γ own cc nL ret rm) {index ci k q r : Nat} (hci : ci < 12) (hk : k < clN ci) (hty : isR (fty ci k) = true) (hfin : (clT ci k).2.2.2 = false ∨ ((kMe Γ).name = "<init>" ∧ (clT ci k).1 = own ∧ (clT ci k).2.2.2 = true)) (hw : Cond.fieldLink own index (clT ci k).1 (clT ci k).2.1 (clT ci k).2.2.1 ∈ gw) (d : decode cc pc = .ok (.putfield index, 3))
    (kk : Cor Γ nL cn sn (pc + 3) loc stk f) : Cor Γ nL cn sn pc loc (.ref r :: .ref q :: stk) (pR ci k q (some r) f) := by
  intro Q μ H locs ls ⟨h1, h2, h3⟩ hH hL
  refine put_x (D := (kG Γ).1) (v := va_rf ((some r).map (kD Γ))) hC.1 hC.2.1 hC.2.2.2.2.2.1 hC.2.2.2.2.1 hC.2.2.2.2.2.2.2.2.1 hH.1 hH.2.1 hH.2.2.1 hci hk (by rw [wld_at h2, cellE_obj h1]) (by rw [objF_len]; exact hk) hfin rfl ?_ ?_ hw d (fun H1 locs1 g0 g1 g2 g3 => ?_)
  · cases h9 : fty ci k <;> rw [h9] at hty <;> first | rfl | exact absurd hty (by decide)
  · cases h9 : fty ci k <;> rw [h9] at hty <;> first | rfl | exact absurd hty (by decide)
  rw [wld_wR_obj h1 h2 hty] at g1 g2
  exact kk Q (wR μ q k (some r)) H1 locs1 ls h3 ⟨g1, g2, g3, fun hn => g0.trans (hH.2.2.2 hn)⟩ hL
theorem tys1 {G : GT} : (tysOf G.2.1)[0]? = some (G.2.1 1, .int) := rfl
theorem tys2 {G : GT} : (tysOf G.2.1)[1]? = some (G.2.1 2, .byte) := rfl
theorem tys3 {G : GT} : (tysOf G.2.1)[2]? = some (G.2.1 3, .boolean) := rfl
theorem tys4 {G : GT} : (tysOf G.2.1)[3]? = some (G.2.1 4, .long) := rfl
theorem tys5 {G : GT} : (tysOf G.2.1)[4]? = some (G.2.1 5, .object "SpiritWall$State") := rfl
theorem kd_eq {q t : Nat} (h : (kd q).1 = t) : kd q = (t, (kd q).2) := by rw [← h]
theorem kd_6 {q : Nat} (h : (kd q).1 = 6) : ∃ i : Nat, i < 3 ∧ q = 1000 + i := by
  unfold kd at h
  by_cases h1 : q < 1000
  · rw [if_pos h1] at h
    by_cases h2 : q < pkL.length
    · have h3 : ∀ p ∈ pkL, p.1 ≠ 6 := by decide +kernel
      have h4 : pkL.getD q (9, 0) = pkL[q] := by rw [List.getD_eq_getElem?_getD, List.getElem?_eq_getElem h2]; rfl
      rw [h4] at h
      exact absurd h (h3 _ (List.getElem_mem h2))
    · have h4 : pkL.getD q (9, 0) = (9, 0) := by rw [List.getD_eq_getElem?_getD, List.getElem?_eq_none (by omega)]; rfl
      rw [h4] at h
      exact absurd h (by decide)
  · rw [if_neg h1] at h
    by_cases h2 : q < 1003
    · exact ⟨q - 1000, by omega, by omega⟩
    · rw [if_neg h2] at h
      exact absurd h (by decide)
theorem q_iald (hC : Ctx Γ own cc nL ret rm) {q : Nat} {i : Int32} {f : Int32 → Sem} (d : decode cc pc = .ok (.iaload, 1)) (kk : ∀ v, Cor Γ nL cn sn (pc + 1) loc (.int v :: stk) (f v)) : Cor Γ nL cn sn pc loc (.int i :: .ref q :: stk) (aI q i f) := by
  intro Q μ H locs ls ⟨hin, h⟩ hH hL
  rcases h with ⟨h1, h2, h3⟩ | ⟨h1, h3⟩
  · exact va_iald (D := (kG Γ).1) hC.1 hC.2.1 hC.2.2.2.2.2.2.2.2.1 hH.1 q 0 (by rw [wld_at h2, cellE_int (kd_eq h1) (Or.inl rfl)]) tys1 hin d (kk _ Q μ H locs ls h3 hH hL)
  · obtain ⟨j, hj, rfl⟩ := kd_6 h1
    have h4 : (kd (1000 + j)).2 = 4 := by
      unfold kd
      rw [if_neg (by omega), if_pos (by omega)]
    rw [h4] at hin
    exact va_ti hC.1 hC.2.1 (hC.2.2.2.2.2.2.2.2.2.2.1.1 j hj).2 hH.2.2.1 hin (v := .int (sI (1000 + j) i.toNatClampNeg)) rfl d (kk _ Q μ H locs ls h3 hH hL)
theorem q_alen (hC : Ctx Γ own cc nL ret rm) {q : Nat} {f : Int32 → Sem} (d : decode cc pc = .ok (.arraylength, 1)) (kk : ∀ v, Cor Γ nL cn sn (pc + 1) loc (.int v :: stk) (f v)) : Cor Γ nL cn sn pc loc (.ref q :: stk) (aL q f) := by
  intro Q μ H locs ls ⟨h, h3⟩ hH hL
  rcases h with ⟨h1 | h1, h2⟩ | h1
  · exact va_alen (D := (kG Γ).1) hC.1 hC.2.1 hC.2.2.2.2.2.2.2.2.1 hH.1 q 0 (by rw [wld_at h2, cellE_int (kd_eq h1) (Or.inl rfl)]) tys1 rfl d (kk _ Q μ H locs ls h3 hH hL)
  · exact va_alen (D := (kG Γ).1) hC.1 hC.2.1 hC.2.2.2.2.2.2.2.2.1 hH.1 q 4 (by rw [wld_at h2, cellE_ref (kd_eq h1)]) tys5 rfl d (kk _ Q μ H locs ls h3 hH hL)
  · obtain ⟨j, hj, rfl⟩ := kd_6 h1
    have h4 : (kd (1000 + j)).2 = 4 := by
      unfold kd
      rw [if_neg (by omega), if_pos (by omega)]
    rw [h4] at h3
    exact va_tlen hC.1 hC.2.1 (hC.2.2.2.2.2.2.2.2.2.2.1.1 j hj).2 hH.2.2.1 rfl d (kk _ Q μ H locs ls h3 hH hL)
theorem q_bald (hC : Ctx Γ own cc nL ret rm) {q : Nat} {i : Int32} {f : Int32 → Sem} (d : decode cc pc = .ok (.baload, 1)) (kk : ∀ v, Cor Γ nL cn sn (pc + 1) loc (.int v :: stk) (f v)) : Cor Γ nL cn sn pc loc (.int i :: .ref q :: stk) (aB q i f) := by
  intro Q μ H locs ls ⟨h1, h2, hin, h3⟩ hH hL
  rcases h1 with h1 | h1
  · exact va_bald (D := (kG Γ).1) hC.1 hC.2.1 hC.2.2.2.2.2.2.2.2.1 hH.1 q 1 (by rw [wld_at h2, cellE_int (kd_eq h1) (Or.inr (Or.inl rfl))]) tys2 hin d (kk _ Q μ H locs ls h3 hH hL)
  · exact va_zald (D := (kG Γ).1) hC.1 hC.2.1 hC.2.2.2.2.2.2.2.2.1 hH.1 q 2 (by rw [wld_at h2, cellE_int (kd_eq h1) (Or.inr (Or.inr rfl))]) tys3 hin d (kk _ Q μ H locs ls h3 hH hL)
theorem q_lald (hC : Ctx Γ own cc nL ret rm) {q : Nat} {i : Int32} {f : Int64 → Sem} (d : decode cc pc = .ok (.laload, 1)) (kk : ∀ v, Cor Γ nL cn sn (pc + 1) loc (.long v :: stk) (f v)) : Cor Γ nL cn sn pc loc (.int i :: .ref q :: stk) (aJ q i f) := by
  intro Q μ H locs ls ⟨h1, h2, hin, h3⟩ hH hL
  exact va_lald (D := (kG Γ).1) hC.1 hC.2.1 hC.2.2.2.2.2.2.2.2.1 hH.1 q 3 (by rw [wld_at h2, cellE_long (kd_eq h1)]) tys4 hin d (kk _ Q μ H locs ls h3 hH hL)
theorem q_aald (hC : Ctx Γ own cc nL ret rm) {q : Nat} {i : Int32} {f : Nat → Sem} (d : decode cc pc = .ok (.aaload, 1)) (kk : ∀ v, Cor Γ nL cn sn (pc + 1) loc (.ref v :: stk) (f v)) : Cor Γ nL cn sn pc loc (.int i :: .ref q :: stk) (aR q i f) := by
  intro Q μ H locs ls ⟨h1, h2, hin, r, hr, h3⟩ hH hL
  exact va_aldq (D := (kG Γ).1) hC.1 hC.2.1 hC.2.2.2.2.2.2.2.2.1 hH.1 q 4 (by rw [wld_at h2, cellE_ref (kd_eq h1)]) tys5 hin d (by
    show WG Γ H locs cn sn Q (F0 (kM Γ) (pc + 1) ls (va_rf ((mR μ q i.toNatClampNeg).map (kD Γ)) :: stk.map (conc (kD Γ))))
    rw [hr]
    exact kk _ Q μ H locs ls h3 hH hL)
/-- an int, byte, boolean or long into an array -/
theorem arr_x {H H0 : Heap} {locs : List Loc} {D : va_G} {A : Nat → Prop} {a q i : Nat} {ws : va_W} {cA : ClassId} {x y : vp_A} {v : Value} {H1 : Heap} (hP : va_P D vwCl ws H) (hD : va_D A ws) (hS : va_S A H0 H locs) (he : ws[q]? = some (a, .inl (cA, x))) (hxy : (vp_cell cA x).setSlot i v = vp_cell cA y) (e : H1[a]? = some ((vp_cell cA x).setSlot i v)) (z : H1.size = H.size) (oq : ∀ q, q ≠ a → H1[q]? = H[q]?) :
    va_P D vwCl (ws.set q (a, .inl (cA, y))) H1 ∧ va_D A (ws.set q (a, .inl (cA, y))) ∧ va_S A H0 H1 (locs ++ [⟨a, i⟩]) :=
  ⟨hP.set hD he (by show H1[a]? = some (vp_cell _ _); rw [e, hxy]) oq, hD.set he, hS.put z oq (hD.2 q _ he)⟩
theorem set_i {cA : ClassId} {n k : Nat} {f : Nat → Int32} {x y : Int32} {v : Value} (hv : v = .int y) (hy : y = x) : (vp_cell cA (n, .inl f)).setSlot k v = vp_cell cA (n, .inl (upd f k x)) := by
  subst hv; subst hy
  rw [vp_cell_i, vp_cell_i, arrV_store]
  congr 1
  funext q
  by_cases hq : q = k
  · subst hq; simp [updV, upd]
  · simp [updV, upd, hq]
theorem set_l {cA : ClassId} {n k : Nat} {f : Nat → Int64} {x : Int64} : (vp_cell cA (n, .inr (.inl f))).setSlot k (.long x) = vp_cell cA (n, .inr (.inl (vp_updL f k x))) := by
  rw [vp_cell_l, vp_cell_l, arrV_store]
  congr 1
  funext q
  by_cases hq : q = k
  · subst hq; simp [updV, vp_updL]
  · simp [updV, vp_updL, hq]
theorem inA {i : Int32} {n : Nat} {cA : ClassId} {f : Nat → Value} (h : vp_in i n) : ¬ (i < 0 ∨ (arrV cA n f).slots.size ≤ i.toNatClampNeg) := by rw [arrV_size]; exact h
theorem q_iast (hC : Ctx Γ own cc nL ret rm) {q : Nat} {i v : Int32} (d : decode cc pc = .ok (.iastore, 1)) (kk : Cor Γ nL cn sn (pc + 1) loc stk f) : Cor Γ nL cn sn pc loc (.int v :: .int i :: .ref q :: stk) (sA q i v f) := by
  intro Q μ H locs ls ⟨h1, h2, hin, h3⟩ hH hL
  have he := (wld_at (aC := (kG Γ).2.1) (ad := kD Γ) h2).trans (by rw [cellE_int (kd_eq h1) (Or.inl rfl)])
  refine W.iast hC.1 hC.2.1 (hH.1 q _ he) ((hC.2.2.2.2.2.2.2.2.1.2 0 _ tys1).1 (kd q).2 (fun j => .int (mI μ q j))) (fun q => by cases q) (inA hin) rfl rfl d (fun H1 e z oq => ?_)
  obtain ⟨g1, g2, g3⟩ := arr_x hH.1 hH.2.1 hH.2.2.1 he (set_i (x := v) rfl rfl) e z oq
  rw [wld_wI_arr (kd_eq h1) (Or.inl rfl) h2] at g1 g2
  exact kk Q _ H1 _ ls h3 ⟨g1, g2, g3, fun hn => z.trans (hH.2.2.2 hn)⟩ hL
theorem q_bast (hC : Ctx Γ own cc nL ret rm) {q : Nat} {i v : Int32} (d : decode cc pc = .ok (.bastore, 1)) (kk : Cor Γ nL cn sn (pc + 1) loc stk f) : Cor Γ nL cn sn pc loc (.int v :: .int i :: .ref q :: stk) (sB q i v f) := by
  intro Q μ H locs ls ⟨h2, hin, h⟩ hH hL
  rcases h with ⟨h1, h3⟩ | ⟨h1, h3⟩
  · have he := (wld_at (aC := (kG Γ).2.1) (ad := kD Γ) h2).trans (by rw [cellE_int (kd_eq h1) (Or.inr (Or.inl rfl))])
    refine W.bast hC.1 hC.2.1 (hH.1 q _ he) ((hC.2.2.2.2.2.2.2.2.1.2 1 _ tys2).1 (kd q).2 (fun j => .int (mI μ q j))) (fun q => by cases q) (inA hin) rfl rfl d (fun H1 e z oq => ?_)
    obtain ⟨g1, g2, g3⟩ := arr_x hH.1 hH.2.1 hH.2.2.1 he (set_i (x := vp_nar .byte v) rfl rfl) e z oq
    rw [wld_wI_arr (kd_eq h1) (Or.inr (Or.inl rfl)) h2] at g1 g2
    exact kk Q _ H1 _ ls h3 ⟨g1, g2, g3, fun hn => z.trans (hH.2.2.2 hn)⟩ hL
  · have he := (wld_at (aC := (kG Γ).2.1) (ad := kD Γ) h2).trans (by rw [cellE_int (kd_eq h1) (Or.inr (Or.inr rfl))])
    refine W.zast hC.1 hC.2.1 (hH.1 q _ he) ((hC.2.2.2.2.2.2.2.2.1.2 2 _ tys3).1 (kd q).2 (fun j => .int (mI μ q j))) (fun q => by cases q) (inA hin) rfl rfl d (fun H1 e z oq => ?_)
    obtain ⟨g1, g2, g3⟩ := arr_x hH.1 hH.2.1 hH.2.2.1 he (set_i (x := vp_nar .boolean v) rfl rfl) e z oq
    rw [wld_wI_arr (kd_eq h1) (Or.inr (Or.inr rfl)) h2] at g1 g2
    exact kk Q _ H1 _ ls h3 ⟨g1, g2, g3, fun hn => z.trans (hH.2.2.2 hn)⟩ hL
theorem q_last (hC : Ctx Γ own cc nL ret rm) {q : Nat} {i : Int32} {v : Int64} (d : decode cc pc = .ok (.lastore, 1)) (kk : Cor Γ nL cn sn (pc + 1) loc stk f) : Cor Γ nL cn sn pc loc (.long v :: .int i :: .ref q :: stk) (sJ q i v f) := by
  intro Q μ H locs ls ⟨h1, h2, hin, h3⟩ hH hL
  have he := (wld_at (aC := (kG Γ).2.1) (ad := kD Γ) h2).trans (by rw [cellE_long (kd_eq h1)])
  refine W.last hC.1 hC.2.1 (hH.1 q _ he) ((hC.2.2.2.2.2.2.2.2.1.2 3 _ tys4).1 (kd q).2 (fun j => .long (mJ μ q j))) (fun q => by cases q) (inA hin) rfl rfl d (fun H1 e z oq => ?_)
  obtain ⟨g1, g2, g3⟩ := arr_x hH.1 hH.2.1 hH.2.2.1 he set_l e z oq
  rw [wld_wJ_arr (kd_eq h1) h2] at g1 g2
  exact kk Q _ H1 _ ls h3 ⟨g1, g2, g3, fun hn => z.trans (hH.2.2.2 hn)⟩ hL
theorem q_gets (hC : Ctx Γ own cc nL ret rm) {index i : Nat} (hi : i < 3) (hw : Cond.fieldLink own index "SpiritWall" (stN i) "[I" ∈ gw) (d : decode cc pc = .ok (.getstatic index, 3)) (kk : Cor Γ nL cn sn (pc + 3) loc (.ref (1000 + i) :: stk) f) : Cor Γ nL cn sn pc loc stk f :=
  fun Q μ H locs ls hf hH hL => va_gets hC.1 hC.2.1 (hC.2.2.2.2.2.2.2.2.2.2.1.1 i hi).1 hH.2.2.1 hC.2.2.2.2.1 (hC.2.2.2.2.2.1 _ hw) (fun _ h => h) d (kk Q μ H locs ls hf hH hL)
theorem q_getsN (hC : Ctx Γ own cc nL ret rm) {index i : Nat} (hi : i < 3) (hw : Cond.fieldLinkNest own index "SpiritWall" (stN i) "[I" "SpiritWall" ∈ lw_tbl) (d : decode cc pc = .ok (.getstatic index, 3)) (kk : Cor Γ nL cn sn (pc + 3) loc (.ref (1000 + i) :: stk) f) : Cor Γ nL cn sn pc loc stk f :=
  fun Q μ H locs ls hf hH hL => va_getsN hC.1 hC.2.1 (hC.2.2.2.2.2.2.2.2.2.2.1.1 i hi).1 hH.2.2.1 hC.2.2.2.2.1 (va_Nw.use rfl (hC.2.2.2.2.2.2.2.2.2.2.1.2.2.2.2.2.2.2.1 _ hw rfl)) (fun _ h => h) d (kk Q μ H locs ls hf hH hL)
theorem q_ldcS (hC : Ctx Γ own cc nL ret rm) {index i : Nat} {tx : String} (hw : (own, index, tx, i) ∈ scTab) (d : decode cc pc = .ok (.ldc index, 2)) (kk : Cor Γ nL cn sn (pc + 2) loc (.ref (2000 + i) :: stk) f) : Cor Γ nL cn sn pc loc stk f :=
  fun Q μ H locs ls hf hH hL => va_ldcS hC.1 hC.2.1 hC.2.2.2.2.1 (hC.2.2.2.2.2.2.2.2.2.2.1.2.2.2.2.1 _ hw) d (kk Q μ H locs ls hf hH hL)
end Heap
