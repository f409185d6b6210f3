section Made13
variable {Γ : CT} {own : String} {cc : ByteArray} {nL cn sn pc : Nat} {ret : Option FieldType} {rm : Room} {loc : List (Nat × Value)} {stk : List Value} {f : Sem}
theorem lg_sl_conc {ad : Nat → Nat} (vs : List Value) : (lg_sl (vs.map (conc ad))).length = (lg_sl vs).length := by
  induction vs with
  | nil => rfl
  | cons v r ih =>
    have h : ∀ (w : Value) (t : List Value), (lg_sl (w :: t)).length = (if w.category = 2 then 2 else 1) + (lg_sl t).length := by
      intro w t
      simp only [lg_sl, List.flatMap_cons, List.length_append]
      split <;> rfl
    rw [List.map_cons, h, h, ih, conc_cat]
theorem lv_args_conc {ad : Nat → Nat} (vs : List Value) : ∀ i, lv_args i (vs.map (conc ad)) = (lv_args i vs).map fun q => (q.1, conc ad q.2) := by
  induction vs with
  | nil => intro i; rfl
  | cons v r ih => intro i; simp only [List.map_cons, lv_args, ih, conc_cat]
def mk (nL : Nat) (b : JT → JT) : ST := fun av μ Q => (lg_sl av).length ≤ nL ∧ fx b 0 av μ Q
section F13
variable {l : Launch}
theorem vx_ofF {y : MethodName} {ws ws' : List Cond} {rm : Room} {Pc : Array Value → State → Prop} {Qc : Array Value → State → Outcome → State → Prop} {XC : String → State → State → Prop} {mc ms : Nat} {free : Addr → Prop} {cc : ByteArray} {maxL : Nat} {ret : Option FieldType}
    (hy : plainFor y = true) (hw : ws = Cond.code y cc maxL ret :: ws')
    (body : ∀ p e s m args below meth c s₁, BodyLoose p l y (headSpec ws rm) cc maxL ret e s m args below meth c s₁ → c.maxLocals = maxL → (∀ x ∈ c.exceptionTable.toList, False) → Pc args s →
      W p l e (headSpec ws rm).room s m args below meth c s.heap [] 0 0 (vx_MQ below Qc XC args s mc ms free) (entryFrame m args maxL)) : vx_Met l y ws rm Pc Qc XC mc ms free := by
  refine MetFree.of_bodySF (code := cc) (maxLocals := maxL) (ret := ret) hy ?_ ?_
  · intro args s m h hn
    obtain ⟨meth, c, h1, h2, h3, h4, h5, h6, -, -⟩ := Cond.code_spec hn (atoms_spec (ws := ws) h _ (by rw [hw]; exact List.mem_cons_self))
    exact ⟨meth, c, h1, h2, h3, h4, h5, h6⟩
  · intro p e s m args below meth c s₁ B hml hP _
    have hh0 : s₁.heap = s.heap := by rw [B.state]; rfl
    have ht : ∀ x ∈ c.exceptionTable.toList, False := by
      obtain ⟨meth9, c9, h1, h2, -, -, -, -, h7, -⟩ := Cond.code_spec B.named (atoms_spec (ws := ws) B.pre _ (by rw [hw]; exact List.mem_cons_self))
      cases Option.some.inj (h1.symm.trans B.method)
      cases Option.some.inj (h2.symm.trans (Stand.of_body B).code)
      intro x hx
      rw [Array.isEmpty_iff.mp h7] at hx
      cases hx
    obtain ⟨t, a1, o, b1, b2, b3⟩ := body p e s m args below meth c s₁ B hml ht hP s₁ hh0 (Stand.of_body B)
    exact ⟨t, o, a1, b1, b2, b3⟩
end F13
theorem Snd.ofF {y : MethodName} {b : JT → JT} (lab : Nat → List Value → Nat × Nat × Nat × List (Nat × Value) × List Value) (hy : plainFor y = true) (h0 : ∀ a, lab 0 a = (0, 0, 0, lv_args 0 a, []))
    (h : ∀ Γ : CT, Ctx Γ y.cls cc nL ret rm → NT Γ → (kMe Γ).name = y.name → ∀ J : JT, (∀ L a, Cor Γ nL (lab L a).1 (lab L a).2.1 (lab L a).2.2.1 (lab L a).2.2.2.1 (lab L a).2.2.2.2 (J L a)) → ∀ L a, Cor Γ nL (lab L a).1 (lab L a).2.1 (lab L a).2.2.1 (lab L a).2.2.2.1 (lab L a).2.2.2.2 (b J L a)) :
    Snd y (.code y cc nL ret) rm (mk nL b) := by
  intro l hl G sz av μ Q ⟨hlen, hS⟩
  refine vx_ofF (cc := cc) (maxL := nL) (ret := ret) hy rfl ?_
  intro p e s m args below meth c s₁ B hml hnt hv
  obtain ⟨rfl, hsz, ⟨hP, hK, hD, hz⟩, hst⟩ := hv
  subst hsz
  have hts := atoms_spec (ws := Cond.code y cc nL ret :: gw) B.pre
  have hC : Ctx (p, l, e, (headSpec (Cond.code y cc nL ret :: gw) rm).room, s, m, (av.map (conc G.2.2)).toArray, below, meth, c, G, va_A (GW G μ) s.heap.size, rm.cells, rm.slots) y.cls cc nL ret rm :=
    ⟨B.exec, B.bytes, hml, B.returns, findClass_of_methodNamed B.named, fun w h => hts w (List.mem_cons_of_mem _ h), B.notSynchronized, hl, hK, fun q h => Or.inr h, hst, rfl, rfl, rfl⟩
  have hl2 := lv_entry (av.map (conc G.2.2)) (n := nL) (by rw [lg_sl_conc]; exact hlen)
  rw [lg_entry_eq]
  generalize (lg_sl (av.map (conc G.2.2)) ++ List.replicate (nL - (lg_sl (av.map (conc G.2.2))).length) Slot.unset).toArray = ls at hl2 ⊢
  rw [lv_args_conc] at hl2
  have key := fx_cor lab (h _ hC hnt (name_of_methodNamed B.named B.method).1) 0 av
  rw [h0] at key
  exact key Q μ s.heap [] ls hS ⟨hP, hD, va_S.rf, hz⟩ hl2
theorem Snd.of {y : MethodName} {b : JT → JT} (lab : Nat → List Value → Nat × Nat × Nat × List (Nat × Value) × List Value) (hy : plainName y.cls = true) (h0 : ∀ a, lab 0 a = (0, 0, 0, lv_args 0 a, []))
    (h : ∀ Γ : CT, Ctx Γ y.cls cc nL ret rm → NT Γ → (kMe Γ).name = y.name → ∀ J : JT, (∀ L a, Cor Γ nL (lab L a).1 (lab L a).2.1 (lab L a).2.2.1 (lab L a).2.2.2.1 (lab L a).2.2.2.2 (J L a)) → ∀ L a, Cor Γ nL (lab L a).1 (lab L a).2.1 (lab L a).2.2.1 (lab L a).2.2.2.1 (lab L a).2.2.2.2 (b J L a)) :
    Snd y (.code y cc nL ret) rm (mk nL b) :=
  Snd.ofF lab (plainFor_of_name hy) h0 h
theorem vty0 : ∀ ci, ci < 12 → ∀ k, k < clN ci → (match fty ci k with | .int => true | .boolean => true | .object _ => true | .array _ => true | _ => false) = true := by decide +kernel
theorem vty {ci k : Nat} (h : ci < 12) (hk : k < clN ci) : fty ci k = .int ∨ fty ci k = .boolean ∨ (∃ t, fty ci k = .object t) ∨ ∃ t, fty ci k = .array t := by
  have h1 := vty0 ci h k hk
  cases h2 : fty ci k <;> rw [h2] at h1 <;> simp at h1 <;> simp
/-- a place more -/
theorem wld_new {aC : Nat → ClassId} {ad : Nat → Nat} {μ : Mem} : wld aC ad (nwM μ) = wld aC ad μ ++ [(ad μ.1, cellE aC ad (nwM μ) μ.1)] := by
  have h : ∀ q, q < μ.1 → cellE aC ad (nwM μ) q = cellE aC ad μ q := fun q hq => cellE_congr (by funext j; simp [mI, nwM, Nat.ne_of_lt hq]) (by funext j; simp [mR, nwM, Nat.ne_of_lt hq]) (by funext j; simp [mJ, nwM, Nat.ne_of_lt hq])
  show (List.range (μ.1 + 1)).map _ = _
  rw [List.range_succ, List.map_append]
  congr 1
  exact List.map_congr_left fun q hq => by rw [h q (List.mem_range.mp hq)]
theorem new_x (hC : Ctx Γ own cc nL ret rm) {μ : Mem} {H H1 : Heap} {locs : List Loc} (hH : Hld Γ H locs μ) (hn : μ.1 < NN) (hz : H1.size = H.size + 1) (ho : ∀ q, q < H.size → H1[q]? = H[q]?) (ha : va_at (kG Γ).1 vwCl (kD Γ μ.1, cellE (kG Γ).2.1 (kD Γ) (nwM μ) μ.1) H1) (hd : kD Γ (μ.1 + 1) = kD Γ μ.1 + 1) : Hld Γ H1 locs (nwM μ) := by
  have hs := hH.2.2.2 hn
  refine ⟨?_, ?_, ⟨Nat.le_trans hH.2.2.1.1 (by omega), fun q g1 g2 => (ho q (Nat.lt_of_lt_of_le g1 hH.2.2.1.1)).trans (hH.2.2.1.2.1 q g1 g2), hH.2.2.1.2.2⟩, fun _ => by rw [hz, hs]; exact hd.symm⟩
  · rw [show GW (kG Γ) (nwM μ) = _ from wld_new]
    refine va_P.app (hH.1.kept fun k x hx => ho x.1 (hH.1 k x hx).lt) (fun k x hx => ?_)
    have hk : k < 1 := (List.getElem?_eq_some_iff.mp hx).1
    rw [show k = 0 by omega] at hx
    cases hx
    exact ha
  · rw [show GW (kG Γ) (nwM μ) = _ from wld_new]
    exact hH.2.1.push hH.1 hs.symm (hC.2.2.2.2.2.2.2.2.2.1 (kD Γ μ.1) (by rw [← hs]; exact hH.2.2.1.1))
theorem q_new (hC : Ctx Γ own cc nL ret rm) {index ci : Nat} {f : Nat → Sem} (hci : ci < 12) (h1 : Cond.classLink own index (clR ci) ∈ gw) (h2 : Cond.instantiable (clR ci) (clN ci) ∈ gw) (h3 : Cond.initialized (clR ci) ∈ gw) (hR : cn + 1 ≤ rm.cells ∧ sn + clN ci ≤ rm.slots) (d : decode cc pc = .ok (.new index, 3))
    (kk : ∀ q, Cor Γ nL (cn + 1) (sn + clN ci) (pc + 3) loc (.ref q :: stk) (f q)) : Cor Γ nL cn sn pc loc stk (nO ci f) := by
  intro Q μ H locs ls ⟨hk, hn, hf⟩ hH hL
  have hbR := hC.2.2.2.2.2.2.2.2.2.2.2.1
  have hKn := hC.2.2.2.2.2.2.2.2.1.1 ci _ (vwCl_at hci)
  refine W.newcK hC.1 hC.2.1 hC.2.2.2.2.1 (hC.2.2.2.2.2.1 _ h1) (hC.2.2.2.2.2.1 _ h2) (hC.2.2.2.2.2.1 _ h3) rfl d (by rw [hbR]; exact hR.1) (by rw [hbR]; exact hR.2) hKn.2.1 (hH.2.2.2 hn) fun H1 kC hkC e1 z1 o1 => ?_
  refine kk _ Q (nwM μ) H1 locs ls hf (new_x hC hH hn (by rw [z1, hH.2.2.2 hn]) (by rw [hH.2.2.2 hn]; exact o1) ?_ (hC.2.2.2.2.2.2.2.2.2.2.1.2.2.2.2.2.2.2.2.2 _ hn)) hL
  rw [cellE_obj hk]
  refine ⟨_, vwCl_at hci, (u_born (fty ci) hC.2.2.2.2.2.1 (clT_lay hci) hKn hkC e1 (clT_ok hci)).to fun k hk => ?_⟩
  have hk' : k < clN ci := hk
  rw [show vp_V (objF (kD Γ) (nwM μ) ci μ.1) k = slotV (kD Γ) (nwM μ) ci μ.1 k by simp [vp_V, objF, List.getD_eq_getElem?_getD, hk']]
  simp only [slotV, mR, mI, nwM, if_pos]
  rcases vty hci hk' with h | h | ⟨t, h⟩ | ⟨t, h⟩ <;> rw [h] <;> rfl
theorem arrId (hC : Ctx Γ own cc nL ret rm) {k : Nat} {ty : FieldType} (h : (tysOf (kG Γ).2.1)[k]? = some ((kG Γ).2.1 (k + 1), ty)) (ht : ∀ c, ty ≠ .object c) {cA : ClassId} (hA : (kS Γ).vm.findClass ("[" ++ ty.toString) = some cA) : cA = (kG Γ).2.1 (k + 1) := by
  have h1 := (hC.2.2.2.2.2.2.2.2.1.2 k _ h).2
  cases ty <;> first | exact absurd rfl (ht _) | exact Option.some.inj (hA.symm.trans h1)
/-- the kind of an array of numbers -/
def akd : ArrayType → Nat
  | .int => 1
  | .byte => 2
  | .boolean => 3
  | .long => 4
  | _ => 9
theorem q_newa (hC : Ctx Γ own cc nL ret rm) {atype : ArrayType} {n : Int32} {N : Nat} {f : Nat → Sem} (ht : akd atype < 5) (h1 : Cond.arrayClass (newarray.typeOf atype) ∈ gw) (hN : n = Int32.ofNat N) (hN2 : N < 100000) (hR : cn + 1 ≤ rm.cells ∧ sn + N ≤ rm.slots) (d : decode cc pc = .ok (.newarray atype, 2))
    (kk : ∀ q, Cor Γ nL (cn + 1) (sn + N) (pc + 2) loc (.ref q :: stk) (f q)) : Cor Γ nL cn sn pc loc (.int n :: stk) (nA (akd atype) n f) := by
  intro Q μ H locs ls ⟨⟨k, hk2, hk3, hk⟩, hn, hf⟩ hH hL
  have hbR := hC.2.2.2.2.2.2.2.2.2.2.2.1
  have hNk : N = k := by
    have h2 : (Int32.ofNat N).toInt = (Int32.ofNat k).toInt := by rw [← hN, hk3]
    rw [show (Int32.ofNat N).toInt = (N : Int) from nI_toInt (n := N) (by omega), show (Int32.ofNat k).toInt = (k : Int) from nI_toInt (n := k) (by omega)] at h2
    omega
  subst hNk
  have hcl : n.toNatClampNeg = N := by rw [hN]; exact nI_clamp (n := N) (by omega)
  refine va_newaK hC.1 hC.2.1 (hC.2.2.2.2.2.1 _ h1) rfl d rfl ?_ hcl ?_ (by rw [hbR]; exact hR.1) (by rw [hbR]; exact hR.2) (hH.2.2.2 hn) fun H1 cA e1 z1 o1 hAr hNm => ?_
  · rw [hN]; exact nI_pos (n := N) (by omega)
  · cases atype <;> simp [newarray.typeOf, componentBytes] <;> omega
  · refine kk _ Q (nwM μ) H1 locs ls hf (new_x hC hH hn (by rw [z1, hH.2.2.2 hn]) (by rw [hH.2.2.2 hn]; exact o1) ?_ (hC.2.2.2.2.2.2.2.2.2.2.1.2.2.2.2.2.2.2.2.2 _ hn)) hL
    show va_at _ _ _ _
    cases atype with
    | int =>
      have hc := arrId hC tys1 (fun c h => by cases h) hNm
      subst hc
      rw [cellE_int (t := 1) hk (Or.inl rfl)]
      refine e1.trans ?_
      rw [vp_cell_i]
      simp [mI, nwM, defaultValue, newarray.typeOf]
    | byte =>
      have hc := arrId hC tys2 (fun c h => by cases h) hNm
      subst hc
      rw [cellE_int (t := 2) hk (Or.inr (Or.inl rfl))]
      refine e1.trans ?_
      rw [vp_cell_i]
      simp [mI, nwM, defaultValue, newarray.typeOf]
    | boolean =>
      have hc := arrId hC tys3 (fun c h => by cases h) hNm
      subst hc
      rw [cellE_int (t := 3) hk (Or.inr (Or.inr rfl))]
      refine e1.trans ?_
      rw [vp_cell_i]
      simp [mI, nwM, defaultValue, newarray.typeOf]
    | long =>
      have hc := arrId hC tys4 (fun c h => by cases h) hNm
      subst hc
      rw [cellE_long hk]
      refine e1.trans ?_
      rw [vp_cell_l]
      simp [mJ, nwM, defaultValue, newarray.typeOf]
    | _ => exact absurd ht (by decide)
/-- an array whose length is told at run time, within a bound -/
def nB (t B : Nat) (n : Int32) (f : Nat → Sem) : Sem := fun μ Q => (∃ k : Nat, k ≤ B ∧ n = Int32.ofNat k ∧ kd μ.1 = (t, k)) ∧ μ.1 < NN ∧ f μ.1 (nwM μ) Q
theorem q_newaB (hC : Ctx Γ own cc nL ret rm) {atype : ArrayType} {n : Int32} {B : Nat} {f : Nat → Sem} (ht : akd atype < 5) (h1 : Cond.arrayClass (newarray.typeOf atype) ∈ gw) (hB : B < 100000) (hR : cn + 1 ≤ rm.cells ∧ sn + B ≤ rm.slots) (d : decode cc pc = .ok (.newarray atype, 2))
    (kk : ∀ q, Cor Γ nL (cn + 1) (sn + B) (pc + 2) loc (.ref q :: stk) (f q)) : Cor Γ nL cn sn pc loc (.int n :: stk) (nB (akd atype) B n f) := by
  intro Q μ H locs ls ⟨⟨k, hk2, hk3, hk⟩, hn, hf⟩ hH hL
  exact q_newa hC ht h1 hk3 (by omega) ⟨hR.1, by have := hR.2; omega⟩ d (fun q => c_widen (Nat.le_refl _) (Nat.add_le_add_left hk2 sn) (kk q)) Q μ H locs ls ⟨⟨k, by omega, hk3, hk⟩, hn, hf⟩ hH hL
/-- an array of references to State -/
theorem q_anew (hC : Ctx Γ own cc nL ret rm) {index : Nat} {n : Int32} {N : Nat} {f : Nat → Sem} (h1 : Cond.classLink own index "SpiritWall$State" ∈ gw) (hN : n = Int32.ofNat N) (hN2 : N < 100000) (hR : cn + 1 ≤ rm.cells ∧ sn + N ≤ rm.slots) (d : decode cc pc = .ok (.anewarray index, 3))
    (kk : ∀ q, Cor Γ nL (cn + 1) (sn + N) (pc + 3) loc (.ref q :: stk) (f q)) : Cor Γ nL cn sn pc loc (.int n :: stk) (nA 5 n f) := by
  intro Q μ H locs ls ⟨⟨k, hk2, hk3, hk⟩, hn, hf⟩ hH hL
  have hbR := hC.2.2.2.2.2.2.2.2.2.2.2.1
  have hNk : N = k := by
    have h2 : (Int32.ofNat N).toInt = (Int32.ofNat k).toInt := by rw [← hN, hk3]
    rw [show (Int32.ofNat N).toInt = (N : Int) from nI_toInt (n := N) (by omega), show (Int32.ofNat k).toInt = (k : Int) from nI_toInt (n := k) (by omega)] at h2
    omega
  subst hNk
  have hcl : n.toNatClampNeg = N := by rw [hN]; exact nI_clamp (n := N) (by omega)
  refine W.anew hC.1 hC.2.1 hC.2.2.2.2.1 (hC.2.2.2.2.2.1 _ h1) (va_AO.use hC.2.2.2.2.2.2.2.2.2.2.1.2.2.2.2.2.2.2.2.1) rfl d rfl (by rw [hN]; exact nI_pos (n := N) (by omega)) (by rw [hcl]; omega) (by rw [hbR]; exact hR.1) (by rw [hbR, hcl]; exact hR.2) fun cA kA comp f1 f2 f3 f4 => ?_
  obtain ⟨kA2, comp2, g1, g2, g3, g4⟩ := (hC.2.2.2.2.2.2.2.2.1.2 4 _ tys5).2
  have hc : cA = (kG Γ).2.1 5 := Option.some.inj (f1.symm.trans g4)
  subst hc
  rw [hcl]
  have hs := hH.2.2.2 hn
  show WG Γ _ locs (cn + 1) (sn + N) Q (F0 (kM Γ) (pc + 3) ls (.ref H.size :: stk.map (conc (kD Γ))))
  rw [hs]
  refine kk μ.1 Q (nwM μ) _ locs ls hf (new_x hC hH hn (by rw [Array.size_push]) (fun q hq => by rw [Array.getElem?_push, if_neg (Nat.ne_of_lt hq)]) ?_ (hC.2.2.2.2.2.2.2.2.2.2.1.2.2.2.2.2.2.2.2.2 _ hn)) hL
  rw [cellE_ref hk]
  show (H.push _)[kD Γ μ.1]? = some (vp_cell _ _)
  rw [← hs, Array.getElem?_push_size, arrV_new, vp_cell_q]
  simp [mR, nwM, va_rf]
theorem q_aast (hC : Ctx Γ own cc nL ret rm) {q v : Nat} {i : Int32} (d : decode cc pc = .ok (.aastore, 1)) (kk : Cor Γ nL cn sn (pc + 1) loc stk f) : Cor Γ nL cn sn pc loc (.ref v :: .int i :: .ref q :: stk) (sR q i v f) := by
  intro Q μ H locs ls ⟨h1, h2, hin, hv1, hv2, h3⟩ hH hL
  have he := (wld_at (aC := (kG Γ).2.1) (ad := kD Γ) h2).trans (by rw [cellE_ref (kd_eq h1)])
  have hev := (wld_at (aC := (kG Γ).2.1) (ad := kD Γ) hv2).trans (by rw [cellE_obj hv1])
  have hK := hC.2.2.2.2.2.2.2.2.1
  have hlt : i.toNatClampNeg < (kd q).2 := Nat.not_le.mp fun q => hin (Or.inr q)
  have h0 : ¬ i < 0 := fun q => hin (Or.inl q)
  obtain ⟨r', hr', cellV, g1, g2, g3, -⟩ := hH.1 v _ hev
  have hcls := (hK.1 6 _ (vwCl_at (ci := 6) (by decide))).2
  obtain ⟨kA, comp, k1, k2, k3, -⟩ := (hK.2 4 _ tys5).2
  have hcomp : comp = (kG Γ).1.1 6 := Option.some.inj (k3.symm.trans hcls.1)
  subst hcomp
  obtain ⟨kC, hkC, -⟩ := hcls.2
  refine W.aast hC.1 hC.2.1 (hH.1 q _ he) (fun q h => by cases h) (fun h => by cases h) k1 k2 rfl hkC ⟨h0, by show _ < (arrV _ _ _).slots.size; rw [arrV_size]; exact hlt⟩ g1 (fun q h => by rw [g3] at h; cases h) (by rw [g2]; exact hkC) (by rw [g2]; exact va_assign hcls) rfl rfl d fun H1 e z oq => ?_
  have hset : (vp_cell ((kG Γ).2.1 5) ((kd q).2, .inr (.inr (.inr (.inr (fun j => (mR μ q j).map (kD Γ))))))).setSlot i.toNatClampNeg (.ref (kD Γ v)) = vp_cell ((kG Γ).2.1 5) ((kd q).2, .inr (.inr (.inr (.inr (fun j => (mR (wR μ q i.toNatClampNeg (some v)) q j).map (kD Γ)))))) := by
    rw [vp_cell_q, vp_cell_q, arrV_store]
    congr 1
    funext j
    by_cases hj : j = i.toNatClampNeg
    · subst hj; simp [updV, mR, wR, va_rf]
    · simp [updV, mR, wR, hj]
  obtain ⟨g1, g2, g3⟩ := arr_x hH.1 hH.2.1 hH.2.2.1 he hset e z oq
  have hw : (GW (kG Γ) μ).set q (kD Γ q, .inl ((kG Γ).2.1 5, (kd q).2, .inr (.inr (.inr (.inr (fun j => (mR (wR μ q i.toNatClampNeg (some v)) q j).map (kD Γ))))))) = GW (kG Γ) (wR μ q i.toNatClampNeg (some v)) :=
    wld_upd h2 rfl (by rw [cellE_ref (kd_eq h1)]) (fun q' h => cellE_congr rfl (mR_wR_ne h) rfl)
  rw [hw] at g1 g2
  exact kk Q _ H1 _ ls h3 ⟨g1, g2, g3, fun hn => z.trans (hH.2.2.2 hn)⟩ hL
theorem q_oinit (hC : Ctx Γ own cc nL ret rm) {idx q : Nat} (h1 : Cond.methodLink own idx Lib.objectInit ∈ gw) (h2 : Cond.instanceMethod Lib.objectInit ∈ gw) (h3 : Cond.code Lib.objectInit ⟨#[0xb1]⟩ 1 none ∈ gw) (hr : 1 ≤ rm.frames ∧ (stk.map fun v => v.category).sum + 12 ≤ rm.locals) (d : decode cc pc = .ok (.invokespecial idx, 3)) (kk : Cor Γ nL cn sn (pc + 3) loc stk f) : Cor Γ nL cn sn pc loc (.ref q :: stk) f := by
  intro Q μ H locs ls hf hH hL
  have hbR := hC.2.2.2.2.2.2.2.2.2.2.2.1
  exact W.objInit hC.1 hC.2.1 hC.2.2.2.2.1 (hC.2.2.2.2.2.1 _ h1) (hC.2.2.2.2.2.1 _ h2) (hC.2.2.2.2.2.1 _ h3) rfl (hL.1.trans hC.2.2.1.symm) rfl d (by rw [hbR]; exact hr.1) (by rw [hbR]; show 2 * 0 + ((stk.map (conc (kD Γ))).map fun v => v.category).sum + 12 ≤ _; rw [stk_cat]; have := hr.2; omega) (kk Q μ H locs ls hf hH hL)
theorem c_no : Cor Γ nL cn sn pc loc stk (fun _ _ => False) := fun Q μ H locs ls hf => hf.elim
theorem q_ldcw (hC : Ctx Γ own cc nL ret rm) {index : Nat} {v : Int32} (hw : Cond.constant own index v ∈ gw) (d : decode cc pc = .ok (.ldc_w index, 3)) (k : Cor Γ nL cn sn (pc + 3) loc (.int v :: stk) f) : Cor Γ nL cn sn pc loc stk f :=
  fun Q μ H locs ls hf hH hL => lv_ldcw hC.1 hC.2.1 hC.2.2.2.2.1 (hC.2.2.2.2.2.1 _ hw) d (k Q μ H locs ls hf hH hL)
theorem q_ldcSw (hC : Ctx Γ own cc nL ret rm) {index i : Nat} {tx : String} (hw : (own, index, tx, i) ∈ scTab) (d : decode cc pc = .ok (.ldc_w index, 3)) (kk : Cor Γ nL cn sn (pc + 3) loc (.ref (2000 + i) :: stk) f) : Cor Γ nL cn sn pc loc stk f := by
  intro Q μ H locs ls hf hH hL T hT X
  obtain ⟨t, a1, b1⟩ := kk Q μ H locs ls hf hH hL T hT X
  have hZ := hC.2.2.2.2.2.2.2.2.2.2.1.2.2.2.2.1 _ hw
  exact ⟨t, X.ldcStringW hC.1 hC.2.2.2.2.1 (text := tx) (a := kD Γ (2000 + i)) hZ.1 hZ.2 (g := F0 (kM Γ) pc ls (stk.map (conc (kD Γ)))) rfl (by rw [hC.2.1]; exact d) t a1, b1⟩
/-- String.length and String.charAt, of the constants -/
def SJ_length : ST := fun av μ Q => ∃ i : Nat, i < scN ∧ av = [.ref (2000 + i)] ∧ Q (.inl (some (.int (nI (scLen.getD i 0))))) μ
def SJ_charAt : ST := fun av μ Q => ∃ i k : Nat, i < scN ∧ k < scLen.getD i 0 ∧ av = [.ref (2000 + i), .int (nI k)] ∧ Q (.inl (some (.int ((scByt.getD i []).getD k 0)))) μ
/-- a call on a String constant -/
def obS (q : Nat) (f : Sem) : Sem := fun μ Q => (∃ i : Nat, i < scN ∧ q = 2000 + i) ∧ f μ Q
theorem q_cTI (hC : Ctx Γ own cc nL ret rm) (hnt : NT Γ) {y : MethodName} {bytes : ByteArray} {maxL index : Nat} {rm' : Room} {S : ST} {as st0 : List Value} {q : Nat} {retY : Option FieldType} {f : Int32 → Sem} (hS : Snd y (.code y bytes maxL retY) rm' S) (hy : y.cls = "java/lang/String") (hn : nameOk y as.length = true) (hR : roomOk rm' rm maxL cn sn = true)
    (h1 : Cond.methodLink own index y ∈ gw) (h2 : Cond.instanceMethod y ∈ gw) (h3 : Cond.selects "java/lang/String" y y ∈ gw) (h4 : Cond.initialized "java/lang/String" ∈ gw) (h5 : Cond.code y bytes maxL retY ∈ gw) (hk : (stk.map fun v => v.category).sum ≤ 8) (d : decode cc pc = .ok (.invokevirtual index, 3)) (hst : st0 = as.reverse ++ .ref q :: stk)
    (kk : ∀ v, Cor Γ nL (cn + rm'.cells) (sn + rm'.slots) (pc + 3) loc (.int v :: stk) (f v)) : Cor Γ nL cn sn pc loc st0 (obS q (cI S (.ref q :: as) f)) := by
  subst hst
  intro Q μ H locs ls hf hH hL
  obtain ⟨⟨i, hi, rfl⟩, hf⟩ := hf
  refine k_I hC hnt (roomOk_use hR).2 hH hL (mc := rm'.cells) (ms := rm'.slots) ?_ kk (a := (Value.ref (kD Γ (2000 + i)) :: as.map (conc (kD Γ))).toArray)
  obtain ⟨hR1, hR2, hR3⟩ := roomOk_use hR
  have hbR := hC.2.2.2.2.2.2.2.2.2.2.2.1
  have hrecv : ∃ cell : Cell, H[kD Γ (2000 + i)]? = some cell ∧ cell.vm.isStatics = false ∧ (kS Γ).vm.findClass "java/lang/String" = some cell.cls := by
    obtain ⟨cell, g1, g2, g3, -⟩ := (hC.2.2.2.2.2.2.2.2.2.2.1.2.2.2.1 i hi).1.kept hH.2.2.1.2.1
    exact ⟨cell, g1, g2, g3⟩
  refine vx_runV (As := as.map (conc (kD Γ))) (rest := stk.map (conc (kD Γ))) (fixOf hC) (hS (kL Γ) hC.2.2.2.2.2.2.2.1 (kG Γ) H.size _ μ _ hf) (cwV as.length hC.2.2.2.2.2.1 (gw_V h1 h2 h3 h4 h5) rfl rfl rfl ⟨hy, nameOk_use hn⟩ (by rw [hbR]; exact hR1)) ⟨SPc_blind, hrecv, pre_U hC hH rfl⟩ rfl (by rw [List.length_map]) hL.1 ?_ (lv_room (by rw [stk_cat]; exact hk)) d (by rw [hbR]; exact ⟨hR2, hR3⟩)
  show (as.reverse ++ .ref (2000 + i) :: stk).map (conc (kD Γ)) = (as.map (conc (kD Γ))).reverse ++ .ref (kD Γ (2000 + i)) :: stk.map (conc (kD Γ))
  rw [List.map_append, List.map_reverse, List.map_cons]
  rfl
/-- iinc, the number as it is reckoned -/
theorem q_iincA (hC : Ctx Γ own cc nL ret rm) {i : Nat} {n : Int} {x : Int32} {loc' : List (Nat × Value)} (j : Nat) (c : Int32) (d : decode cc pc = .ok (.iinc i n, 3)) (hc : Int32.ofInt n = c) (hk : loc[j]? = some (i, .int x)) (hn : i < nL) (hl : st1 i (.int (x + c)) loc = loc') (k : Cor Γ nL cn sn (pc + 3) loc' stk f) : Cor Γ nL cn sn pc loc stk f :=
  fun Q μ H locs ls hf hH hL => lv_iinc hC.1 hC.2.1 d hL (k := j) (by rw [List.getElem?_map, hk]; rfl) (by rw [hc]) hn rfl (fun ls' hl' => k Q μ H locs ls' hf hH (by rw [← hl]; exact LH.st1 (v := .int (x + c)) hl'))
def no : Sem := fun _ _ => False
def rmk (f c s l : Nat) : Room := { frames := f, cells := c, slots := s, locals := l }
theorem c_pc {pc' : Nat} (h : pc = pc') (k : Cor Γ nL cn sn pc' loc stk f) : Cor Γ nL cn sn pc loc stk f := by subst h; exact k
end Made13
