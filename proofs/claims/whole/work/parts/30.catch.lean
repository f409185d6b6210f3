/-! ===== exceptions that the law's own methods catch ===== -/
def NcA (U : State) : Prop := ∀ i j : Nat, 0 < i → i < 4 → 0 < j → j < 4 → i ≠ j → va_Nc (exN i) (exN j) U
def SPcN (G : GT) (sz : Nat) (av : List Value) (μ : Mem) : Array Value → State → Prop := fun a U => SPc G sz av μ a U ∧ NcA U
def SndN (y : MethodName) (w : Cond) (rm : Room) (S : ST) : Prop := ∀ (l : Launch), l.stackTraces = false → ∀ (G : GT) (sz : Nat) (av : List Value) (μ : Mem) (Q : Post), S av μ Q →
  vx_Met l y (w :: gw) rm (SPcN G sz av μ) (QcOf G (va_A (GW G μ) sz) Q) (XcOf G (va_A (GW G μ) sz) Q) rm.cells rm.slots (va_A (GW G μ) sz)
theorem NcA.moved {u U : State} (h : u.vm.Alike U.vm) (n : NcA u) : NcA U := fun i j a b c d e => va_Nc.moved h (n i j a b c d e)
theorem SPcN_blind {G : GT} {sz : Nat} {av : List Value} {μ : Mem} : FrameBlind (SPcN G sz av μ) := by
  intro a U g mk q
  exact ⟨SPc_blind a U g mk q.1, NcA.moved (u := U) (U := U.calling g mk a) (Vm.Alike.refl U.vm) q.2⟩
/-- an int or an exception -/
def cIx (S : ST) (as : List Value) (f : Int32 → Sem) (g : Nat → Sem) : Sem := fun μ Q => S as μ (fun r μ1 => match r with
  | .inl (some (.int v)) => f v μ1 Q
  | .inr E => g E μ1 Q
  | _ => False)
def cJx (S : ST) (as : List Value) (f : Int64 → Sem) (g : Nat → Sem) : Sem := fun μ Q => S as μ (fun r μ1 => match r with
  | .inl (some (.long v)) => f v μ1 Q
  | .inr E => g E μ1 Q
  | _ => False)
theorem SndN.of {y : MethodName} {cc : ByteArray} {nL : Nat} {ret : Option FieldType} {rm : Room} {hh : List (Nat × Nat × Nat × Nat)} {b : JT → JT} (lab : Nat → List Value → Nat × Nat × Nat × List (Nat × Value) × List Value) (hy : plainName y.cls = true) (h0 : ∀ a, lab 0 a = (0, 0, 0, lv_args 0 a, []))
    (h : ∀ Γ : CT, Ctx Γ y.cls cc nL ret rm → (kC Γ).exceptionTable.toList = tableOf hh → NcA (kS Γ) → ∀ J : JT, (∀ L a, Cor Γ nL (lab L a).1 (lab L a).2.1 (lab L a).2.2.1 (lab L a).2.2.2.1 (lab L a).2.2.2.2 (J L a)) → ∀ L a, Cor Γ nL (lab L a).1 (lab L a).2.1 (lab L a).2.2.1 (lab L a).2.2.2.1 (lab L a).2.2.2.2 (b J L a)) :
    SndN y (.codeWith y cc nL ret hh) rm (mk nL b) := by
  intro l hl G sz av μ Q ⟨hlen, hS⟩
  refine vx_ofWH (cc := cc) (maxL := nL) (ret := ret) (hh := hh) hy rfl ?_
  intro p e s m args below meth c s₁ B hml hv
  obtain ⟨⟨rfl, hsz, ⟨hP, hK, hD, hz⟩, hst⟩, hN⟩ := hv
  subst hsz
  have hts := atoms_spec (ws := Cond.codeWith y cc nL ret hh :: gw) B.pre
  have hTab : c.exceptionTable.toList = tableOf hh := vx_table (x := y) B (hts _ List.mem_cons_self)
  have hC : Ctx (p, l, e, (headSpec (Cond.codeWith y cc nL ret hh :: gw) rm).room, s, m, (av.map (conc G.2.2)).toArray, below, meth, c, G, va_A (GW G μ) s.heap.size, rm.cells, rm.slots) y.cls cc nL ret rm :=
    ⟨B.exec, B.bytes, hml, B.returns, findClass_of_methodNamed B.named, fun w h => hts w (List.mem_cons_of_mem _ h), B.notSynchronized, hl, hK, fun q h => Or.inr h, hst, rfl, rfl, rfl⟩
  have hl2 := lv_entry (av.map (conc G.2.2)) (n := nL) (by rw [lg_sl_conc]; exact hlen)
  rw [lg_entry_eq]
  generalize (lg_sl (av.map (conc G.2.2)) ++ List.replicate (nL - (lg_sl (av.map (conc G.2.2))).length) Slot.unset).toArray = ls at hl2 ⊢
  rw [lv_args_conc] at hl2
  have key := fx_cor lab (h _ hC hTab hN) 0 av
  rw [h0] at key
  exact key Q μ s.heap [] ls hS ⟨hP, hD, va_S.rf, hz⟩ hl2
section Catch30
variable {Γ : CT} {own : String} {cc : ByteArray} {nL cn sn pc : Nat} {ret : Option FieldType} {rm : Room} {loc : List (Nat × Value)} {stk : List Value} {f : Sem}
/-- where an exception of kind k goes on -/
def XH (Γ : CT) (nL cn sn pc : Nat) (loc : List (Nat × Value)) (g : Sem) (k : Nat) : Prop := ∀ (Q : Post) (μ : Mem) (H : Heap) (locs : List Loc) (ls : Array Slot) (q : Nat) (ce : Cell) (rest : List Value), g μ Q → Hld Γ H locs μ → LH (kD Γ) nL ls loc → H[q]? = some ce → ce.vm = .none → (kS Γ).vm.findClass (exN k) = some ce.cls →
  vx_W (kP Γ) (kL Γ) (kE Γ) (kR Γ) (kS Γ) (kM Γ) (kAr Γ) (kB Γ) (kMe Γ) (kC Γ) H locs cn sn (vx_MQ (kB Γ) (QcOf (kG Γ) (kA Γ) Q) (XcOf (kG Γ) (kA Γ) Q) (kAr Γ) (kS Γ) (kMc Γ) (kMs Γ) (kA Γ)) (F0 (kM Γ) pc ls rest) q
theorem q_noH {k : Nat} : XH Γ nL cn sn pc loc no k := fun Q μ H locs ls q ce rest h => h.elim
def AstU (Γ : CT) (nL cn sn h : Nat) (loc : List (Nat × Value)) (g : Sem) : Prop := ∀ (Q : Post) (μ : Mem) (H : Heap) (locs : List Loc) (ls : Array Slot) (q : Nat), g μ Q → Hld Γ H locs μ → LH (kD Γ) nL ls loc → WG Γ H locs cn sn Q (F0 (kM Γ) h ls [.ref q])
theorem astU_n (hC : Ctx Γ own cc nL ret rm) {n : Fin 4} {i h : Nat} {g : Sem} (d : decode cc h = .ok (.astore_n n, 1)) (hi : (n : Nat) = i) (hn : i < nL) (k : Cor Γ nL cn sn (h + 1) [] [] g) : AstU Γ nL cn sn h loc g :=
  fun Q μ H locs ls q hf hH hL => lv_astore_n hC.1 hC.2.1 d hi hL hn rfl (fun ls' hl' => k Q μ H locs ls' hf hH (lv_sub hl' [] rfl))
theorem astU (hC : Ctx Γ own cc nL ret rm) {i h : Nat} {g : Sem} (d : decode cc h = .ok (.astore i, 2)) (hn : i < nL) (k : Cor Γ nL cn sn (h + 2) [] [] g) : AstU Γ nL cn sn h loc g :=
  fun Q μ H locs ls q hf hH hL => lv_astore hC.1 hC.2.1 d hL hn rfl (fun ls' hl' => k Q μ H locs ls' hf hH (lv_sub hl' [] rfl))
theorem q_hand (hC : Ctx Γ own cc nL ret rm) {hh : List (Nat × Nat × Nat × Nat)} (hTab : (kC Γ).exceptionTable.toList = tableOf hh) (hN : NcA (kS Γ)) {k st en h ct : Nat} {g : Sem} (pre suf : List (Nat × Nat × Nat × Nat)) (hk : 0 < k ∧ k < 4) (hs : hh = pre ++ (st, en, h, ct) :: suf)
    (hpre : ∀ z ∈ pre, z.2.2.2 ≠ 0 ∧ ∃ k' : Nat, 0 < k' ∧ k' < 4 ∧ k' ≠ k ∧ Cond.classLink own z.2.2.2 (exN k') ∈ gw) (hcov : covers ⟨st, en, h, ct⟩ pc = true) (h0 : ct ≠ 0) (hl : Cond.classLink own ct (exN k) ∈ gw) (hcast : Cond.castable (exN k) (exN k) ∈ lw_tbl)
    (kk : AstU Γ nL cn sn h loc g) : XH Γ nL cn sn pc loc g k := by
  intro Q μ H locs ls q ce rest hf hH hL hce hcv hcl
  refine vx_catch (own := own) (name := exN k) (E := exN k) hC.2.2.2.2.1 (tableOf pre) ⟨st, en, h, ct⟩ (tableOf suf) (by rw [hTab, hs]; simp [tableOf]) ?_ hcov h0 (hC.2.2.2.2.2.1 _ hl) (va_Nw.use rfl (hC.2.2.2.2.2.2.2.2.2.2.1.2.2.2.2.2.2.2.1 _ hcast rfl)) hce hcv hcl (kk Q μ H locs ls q hf hH hL)
  intro z hz
  obtain ⟨w, hw, rfl⟩ := List.mem_map.mp hz
  obtain ⟨a0, k', a1, a2, a3, a4⟩ := hpre w hw
  exact Or.inr ⟨a0, exN k', hC.2.2.2.2.2.1 _ a4, hN k k' hk.1 hk.2 a1 a2 (Ne.symm a3)⟩
theorem q_xVI (hC : Ctx Γ own cc nL ret rm) {y : MethodName} {bytes : ByteArray} {maxL index : Nat} {rm' : Room} {S : ST} {as st0 : List Value} {ci q : Nat} {retY : Option FieldType} {f : Int32 → Sem} {g : Nat → Sem} (hS : Snd y (.code y bytes maxL retY) rm' S) (hci : ci < 12) (hy : y.cls = clR ci) (hn : nameOk y as.length = true) (hR : roomOk rm' rm maxL cn sn = true)
    (h1 : Cond.methodLink own index y ∈ gw) (h2 : Cond.instanceMethod y ∈ gw) (h3 : Cond.selects (clR ci) y y ∈ gw) (h4 : Cond.initialized (clR ci) ∈ gw) (h5 : Cond.code y bytes maxL retY ∈ gw) (hk : (stk.map fun v => v.category).sum ≤ 8) (d : decode cc pc = .ok (.invokevirtual index, 3)) (hst : st0 = as.reverse ++ .ref q :: stk)
    (kk : ∀ v, Cor Γ nL (cn + rm'.cells) (sn + rm'.slots) (pc + 3) loc (.int v :: stk) (f v)) (kx : ∀ k, XH Γ nL (cn + rm'.cells) (sn + rm'.slots) pc loc (g k) k) : Cor Γ nL cn sn pc loc st0 (ob ci q (cIx S (.ref q :: as) f g)) := by
  subst hst
  intro Q μ H locs ls hf hH hL
  refine q_run hC hH (r_V hC hS hci hy hn hR h1 h2 h3 h4 h5 hk d hf.2.2 ⟨hf.1, hf.2.1⟩ hH hL) (fun v μ1 H1 locs1 hq hH1 => ?_) (fun k μ1 H1 locs1 q ce hq hH1 hce hcv hcl => kx k Q μ1 H1 locs1 ls q ce _ hq hH1 hL hce hcv hcl)
  match v, hq with
  | some (.int v), hq => exact kk v Q μ1 H1 locs1 ls hq hH1 hL
theorem q_xVJ (hC : Ctx Γ own cc nL ret rm) {y : MethodName} {bytes : ByteArray} {maxL index : Nat} {rm' : Room} {S : ST} {as st0 : List Value} {ci q : Nat} {retY : Option FieldType} {f : Int64 → Sem} {g : Nat → Sem} (hS : Snd y (.code y bytes maxL retY) rm' S) (hci : ci < 12) (hy : y.cls = clR ci) (hn : nameOk y as.length = true) (hR : roomOk rm' rm maxL cn sn = true)
    (h1 : Cond.methodLink own index y ∈ gw) (h2 : Cond.instanceMethod y ∈ gw) (h3 : Cond.selects (clR ci) y y ∈ gw) (h4 : Cond.initialized (clR ci) ∈ gw) (h5 : Cond.code y bytes maxL retY ∈ gw) (hk : (stk.map fun v => v.category).sum ≤ 8) (d : decode cc pc = .ok (.invokevirtual index, 3)) (hst : st0 = as.reverse ++ .ref q :: stk)
    (kk : ∀ v, Cor Γ nL (cn + rm'.cells) (sn + rm'.slots) (pc + 3) loc (.long v :: stk) (f v)) (kx : ∀ k, XH Γ nL (cn + rm'.cells) (sn + rm'.slots) pc loc (g k) k) : Cor Γ nL cn sn pc loc st0 (ob ci q (cJx S (.ref q :: as) f g)) := by
  subst hst
  intro Q μ H locs ls hf hH hL
  refine q_run hC hH (r_V hC hS hci hy hn hR h1 h2 h3 h4 h5 hk d hf.2.2 ⟨hf.1, hf.2.1⟩ hH hL) (fun v μ1 H1 locs1 hq hH1 => ?_) (fun k μ1 H1 locs1 q ce hq hH1 hce hcv hcl => kx k Q μ1 H1 locs1 ls q ce _ hq hH1 hL hce hcv hcl)
  match v, hq with
  | some (.long v), hq => exact kk v Q μ1 H1 locs1 ls hq hH1 hL
theorem gw_SW {own : String} {idx : Nat} {y : MethodName} {w : Cond} (h1 : Cond.methodLink own idx y ∈ gw) (h2 : Cond.static y ∈ gw) (h4 : Cond.initialized y.cls ∈ gw) (h5 : w ∈ gw) : GoodIn gw (va_wsS own idx y (w :: gw)) := gw_S h1 h2 h4 h5
/-- the law calls a method of its own that catches -/
theorem q_cSXI (hC : Ctx Γ own cc nL ret rm) (hnt : NT Γ) (hN : NcA (kS Γ)) {y : MethodName} {bytes : ByteArray} {maxL index : Nat} {rm' : Room} {S : ST} {as st0 : List Value} {retY : Option FieldType} {hh : List (Nat × Nat × Nat × Nat)} {f : Int32 → Sem} (hS : SndN y (.codeWith y bytes maxL retY hh) rm' S) (hn : nameOk y as.length = true) (hR : roomOk rm' rm maxL cn sn = true)
    (h1 : Cond.methodLink own index y ∈ gw) (h2 : Cond.static y ∈ gw) (h4 : Cond.initialized y.cls ∈ gw) (h5 : Cond.codeWith y bytes maxL retY hh ∈ gw) (hk : (stk.map fun v => v.category).sum ≤ 8) (d : decode cc pc = .ok (.invokestatic index, 3)) (hst : st0 = as.reverse ++ stk)
    (kk : ∀ v, Cor Γ nL (cn + rm'.cells) (sn + rm'.slots) (pc + 3) loc (.int v :: stk) (f v)) : Cor Γ nL cn sn pc loc st0 (cI S as f) := by
  subst hst
  intro Q μ H locs ls hf hH hL
  obtain ⟨hR1, hR2, hR3⟩ := roomOk_use hR
  have hbR := hC.2.2.2.2.2.2.2.2.2.2.2.1
  refine k_I hC hnt (roomOk_use hR).2 hH hL (mc := rm'.cells) (ms := rm'.slots) ?_ kk (a := (as.map (conc (kD Γ))).toArray)
  refine vx_runSX (hh := hh) (As := as.map (conc (kD Γ))) (rest := stk.map (conc (kD Γ))) (fixOf hC) (hS (kL Γ) hC.2.2.2.2.2.2.2.1 (kG Γ) H.size _ μ _ hf) (vx_cwSW as.length hC.2.2.2.2.2.1 (gw_SW h1 h2 h4 h5) rfl rfl rfl (nameOk_use hn) (by rw [hbR]; exact hR1)) ⟨SPcN_blind, fun U hU hW => ⟨pre_U hC hH rfl U hU hW, hN.moved hW.alike⟩⟩ rfl (by rw [List.length_map]) hL.1 ?_ (lv_room (by rw [stk_cat]; exact hk)) d (by rw [hbR]; exact ⟨hR2, hR3⟩)
  show (as.reverse ++ stk).map (conc (kD Γ)) = (as.map (conc (kD Γ))).reverse ++ stk.map (conc (kD Γ))
  rw [List.map_append, List.map_reverse]
/-! the script -/
def sld (L : Nat) (xs : Nat → Int32) (i : Int32) (f : Int32 → Sem) : Sem := fun μ Q => vp_in i L ∧ f (xs i.toNatClampNeg) μ Q
/-- a fact for the walk, and on -/
def ck (c : Prop) (f : Sem) : Sem := fun μ Q => c ∧ f μ Q
def Scr (Γ : CT) (L : Nat) (xs : Nat → Int32) : Prop := va_X (kD Γ 1900) L xs (kS Γ) (kS Γ).heap ∧ kD Γ 1900 < (kS Γ).heap.size ∧ ¬ kA Γ (kD Γ 1900)
theorem q_slen (hC : Ctx Γ own cc nL ret rm) {L : Nat} {xs : Nat → Int32} (hX : Scr Γ L xs) (d : decode cc pc = .ok (.arraylength, 1)) (kk : Cor Γ nL cn sn (pc + 1) loc (.int (nI L) :: stk) f) : Cor Γ nL cn sn pc loc (.ref 1900 :: stk) f :=
  fun Q μ H locs ls hf hH hL => va_slen hC.1 hC.2.1 hX.1 hX.2.1 hX.2.2 hH.2.2.1 d (kk Q μ H locs ls hf hH hL)
theorem q_sld (hC : Ctx Γ own cc nL ret rm) {L : Nat} {xs : Nat → Int32} (hX : Scr Γ L xs) {i : Int32} {f : Int32 → Sem} (d : decode cc pc = .ok (.iaload, 1)) (kk : ∀ v, Cor Γ nL cn sn (pc + 1) loc (.int v :: stk) (f v)) : Cor Γ nL cn sn pc loc (.int i :: .ref 1900 :: stk) (sld L xs i f) :=
  fun Q μ H locs ls hf hH hL => va_sld hC.1 hC.2.1 hX.1 hX.2.1 hX.2.2 hH.2.2.1 hf.1 d (kk _ Q μ H locs ls hf.2 hH hL)
end Catch30
