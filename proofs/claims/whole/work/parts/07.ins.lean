/-! ===== a place in a method's code keeps a semantics ===== -/
abbrev CT : Type := Program × Launch × Env × Room × State × MethodId × Array Value × List Frame × Method × Code × GT × (Nat → Prop) × Nat × Nat
abbrev kP (Γ : CT) : Program := Γ.1
abbrev kL (Γ : CT) : Launch := Γ.2.1
abbrev kE (Γ : CT) : Env := Γ.2.2.1
abbrev kR (Γ : CT) : Room := Γ.2.2.2.1
abbrev kS (Γ : CT) : State := Γ.2.2.2.2.1
abbrev kM (Γ : CT) : MethodId := Γ.2.2.2.2.2.1
abbrev kAr (Γ : CT) : Array Value := Γ.2.2.2.2.2.2.1
abbrev kB (Γ : CT) : List Frame := Γ.2.2.2.2.2.2.2.1
abbrev kMe (Γ : CT) : Method := Γ.2.2.2.2.2.2.2.2.1
abbrev kC (Γ : CT) : Code := Γ.2.2.2.2.2.2.2.2.2.1
abbrev kG (Γ : CT) : GT := Γ.2.2.2.2.2.2.2.2.2.2.1
abbrev kA (Γ : CT) : Nat → Prop := Γ.2.2.2.2.2.2.2.2.2.2.2.1
abbrev kMc (Γ : CT) : Nat := Γ.2.2.2.2.2.2.2.2.2.2.2.2.1
abbrev kMs (Γ : CT) : Nat := Γ.2.2.2.2.2.2.2.2.2.2.2.2.2
abbrev kD (Γ : CT) : Nat → Nat := (kG Γ).2.2
def exN (k : Nat) : String := ["", "java/lang/IndexOutOfBoundsException", "java/lang/IllegalArgumentException", "java/lang/IllegalStateException"].getD k ""
def QcOf (G : GT) (A : Nat → Prop) (Q : Post) : Array Value → State → Outcome → State → Prop := fun _ st o t =>
  (∃ (v : Option Value) (μ : Mem), o = .returned (v.map (conc G.2.2)) ∧ Q (.inl v) μ ∧ WldP G A μ t t.heap) ∧ va_F A st t
def XcOf (G : GT) (A : Nat → Prop) (Q : Post) : String → State → State → Prop := fun E st t =>
  (∃ (k : Nat) (μ : Mem), E = exN k ∧ Q (.inr k) μ ∧ WldP G A μ t t.heap) ∧ va_F A st t
/-- what a body knows of its start -/
def Ctx (Γ : CT) (own : String) (cc : ByteArray) (nL : Nat) (ret : Option FieldType) (rm : Room) : Prop :=
  (kP Γ).tables.exec = Jvm.exec ∧ (kC Γ).code = cc ∧ (kC Γ).maxLocals = nL ∧ (kMe Γ).sig.returnType = ret ∧ (kS Γ).vm.findClass own = some (kM Γ).cls ∧ (∀ w ∈ gw, w.before (kAr Γ) (kS Γ) = true) ∧ (kMe Γ).locks = false ∧
  (kL Γ).stackTraces = false ∧ va_K (kG Γ).1 vwCl (tysOf (kG Γ).2.1) (kS Γ) ∧ (∀ q, (kS Γ).heap.size ≤ q → kA Γ q) ∧ Sta (kD Γ) (kA Γ) (kS Γ) (kS Γ).heap ∧ kR Γ = rm ∧ rm.cells = kMc Γ ∧ rm.slots = kMs Γ
/-- the locals that are known -/
def LH (ad : Nat → Nat) (nL : Nat) (ls : Array Slot) (loc : List (Nat × Value)) : Prop := lv_has ls nL (loc.map fun q => (q.1, conc ad q.2))
abbrev WG (Γ : CT) (H : Heap) (locs : List Loc) (cn sn : Nat) (Q : Post) (g : JFrame) : Prop :=
  W (kP Γ) (kL Γ) (kE Γ) (kR Γ) (kS Γ) (kM Γ) (kAr Γ) (kB Γ) (kMe Γ) (kC Γ) H locs cn sn (vx_MQ (kB Γ) (QcOf (kG Γ) (kA Γ) Q) (XcOf (kG Γ) (kA Γ) Q) (kAr Γ) (kS Γ) (kMc Γ) (kMs Γ) (kA Γ)) g
/-- the heap holds the memory -/
def Hld (Γ : CT) (H : Heap) (locs : List Loc) (μ : Mem) : Prop :=
  va_P (kG Γ).1 vwCl (GW (kG Γ) μ) H ∧ va_D (kA Γ) (GW (kG Γ) μ) ∧ va_S (kA Γ) (kS Γ).heap H locs ∧ (μ.1 < NN → H.size = kD Γ μ.1)
def Cor (Γ : CT) (nL cn sn pc : Nat) (loc : List (Nat × Value)) (stk : List Value) (f : Sem) : Prop :=
  ∀ (Q : Post) (μ : Mem) (H : Heap) (locs : List Loc) (ls : Array Slot), f μ Q → Hld Γ H locs μ → LH (kD Γ) nL ls loc → WG Γ H locs cn sn Q (F0 (kM Γ) pc ls (stk.map (conc (kD Γ))))
section Ins
variable {Γ : CT} {own : String} {cc : ByteArray} {nL cn sn pc : Nat} {ret : Option FieldType} {rm : Room} {loc : List (Nat × Value)} {stk : List Value} {f : Sem}
theorem fx_cor {b : JT → JT} (lab : Nat → List Value → Nat × Nat × Nat × List (Nat × Value) × List Value)
    (h : ∀ J : JT, (∀ L a, Cor Γ nL (lab L a).1 (lab L a).2.1 (lab L a).2.2.1 (lab L a).2.2.2.1 (lab L a).2.2.2.2 (J L a)) → ∀ L a, Cor Γ nL (lab L a).1 (lab L a).2.1 (lab L a).2.2.1 (lab L a).2.2.2.1 (lab L a).2.2.2.2 (b J L a)) :
    ∀ L a, Cor Γ nL (lab L a).1 (lab L a).2.1 (lab L a).2.2.1 (lab L a).2.2.2.1 (lab L a).2.2.2.2 (fx b L a) := by
  intro L a Q μ H locs ls hf hH hL
  exact hf (fun L a μ Q => ∀ (H : Heap) (locs : List Loc) (ls : Array Slot), Hld Γ H locs μ → LH (kD Γ) nL ls (lab L a).2.2.2.1 → WG Γ H locs (lab L a).1 (lab L a).2.1 Q (F0 (kM Γ) (lab L a).2.2.1 ls ((lab L a).2.2.2.2.map (conc (kD Γ)))))
    (fun J hJ L a μ Q hb H locs ls hH hL => h J (fun L a Q μ H locs ls hj hH hL => hJ L a μ Q hj H locs ls hH hL) L a Q μ H locs ls hb hH hL) H locs ls hH hL
theorem c_widen {cn' sn' : Nat} (h1 : cn ≤ cn') (h2 : sn ≤ sn') (k : Cor Γ nL cn' sn' pc loc stk f) : Cor Γ nL cn sn pc loc stk f :=
  fun Q μ H locs ls hf hH hL => W.widen h1 h2 (k Q μ H locs ls hf hH hL)
/-- fewer locals, in another order -/
theorem c_sub {loc' : List (Nat × Value)} (ks : List Nat) (h : ks.filterMap (fun k => loc[k]?) = loc') (k : Cor Γ nL cn sn pc loc' stk f) : Cor Γ nL cn sn pc loc stk f := by
  intro Q μ H locs ls hf hH hL
  refine k Q μ H locs ls hf hH (lv_sub hL ks ?_)
  subst h
  simp only [lv_pick, List.map_filterMap, List.getElem?_map]
  
theorem c_at {ls : Array Slot} {ad : Nat → Nat} (h : LH ad nL ls loc) (k : Nat) {i : Nat} {v : Value} (hk : loc[k]? = some (i, v)) : ls[i]? = some (.val (conc ad v)) :=
  lv_at h k (by rw [List.getElem?_map, hk]; rfl)
theorem q_iconst (hC : Ctx Γ own cc nL ret rm) {n : Int} {v : Int32} (d : decode cc pc = .ok (.iconst n, 1)) (hv : Int32.ofInt n = v) (k : Cor Γ nL cn sn (pc + 1) loc (.int v :: stk) f) : Cor Γ nL cn sn pc loc stk f :=
  fun Q μ H locs ls hf hH hL => lv_iconst hC.1 hC.2.1 d hv (k Q μ H locs ls hf hH hL)
theorem q_bipush (hC : Ctx Γ own cc nL ret rm) {n : Int} {v : Int32} (d : decode cc pc = .ok (.bipush n, 2)) (hv : (Int8.ofInt n).toInt32 = v) (k : Cor Γ nL cn sn (pc + 2) loc (.int v :: stk) f) : Cor Γ nL cn sn pc loc stk f :=
  fun Q μ H locs ls hf hH hL => lv_bipush hC.1 hC.2.1 d hv (k Q μ H locs ls hf hH hL)
theorem q_sipush (hC : Ctx Γ own cc nL ret rm) {n : Int} {v : Int32} (d : decode cc pc = .ok (.sipush n, 3)) (hv : (Int16.ofInt n).toInt32 = v) (k : Cor Γ nL cn sn (pc + 3) loc (.int v :: stk) f) : Cor Γ nL cn sn pc loc stk f :=
  fun Q μ H locs ls hf hH hL => lv_sipush hC.1 hC.2.1 d hv (k Q μ H locs ls hf hH hL)
theorem q_lconst (hC : Ctx Γ own cc nL ret rm) {n : Fin 2} {v : Int64} (d : decode cc pc = .ok (.lconst n, 1)) (hv : Int64.ofNat (n : Nat) = v) (k : Cor Γ nL cn sn (pc + 1) loc (.long v :: stk) f) : Cor Γ nL cn sn pc loc stk f :=
  fun Q μ H locs ls hf hH hL => lv_lconst hC.1 hC.2.1 d hv (k Q μ H locs ls hf hH hL)
theorem q_iload_n (hC : Ctx Γ own cc nL ret rm) {n : Fin 4} {i : Nat} {x : Int32} (j : Nat) (d : decode cc pc = .ok (.iload_n n, 1)) (hi : (n : Nat) = i) (hk : loc[j]? = some (i, .int x)) (k : Cor Γ nL cn sn (pc + 1) loc (.int x :: stk) f) : Cor Γ nL cn sn pc loc stk f :=
  fun Q μ H locs ls hf hH hL => lv_iload_n hC.1 hC.2.1 d hi (c_at hL j hk) (k Q μ H locs ls hf hH hL)
theorem q_iload (hC : Ctx Γ own cc nL ret rm) {i : Nat} {x : Int32} (j : Nat) (d : decode cc pc = .ok (.iload i, 2)) (hk : loc[j]? = some (i, .int x)) (k : Cor Γ nL cn sn (pc + 2) loc (.int x :: stk) f) : Cor Γ nL cn sn pc loc stk f :=
  fun Q μ H locs ls hf hH hL => lv_iload hC.1 hC.2.1 d (c_at hL j hk) (k Q μ H locs ls hf hH hL)
theorem q_lload_n (hC : Ctx Γ own cc nL ret rm) {n : Fin 4} {i : Nat} {x : Int64} (j : Nat) (d : decode cc pc = .ok (.lload_n n, 1)) (hi : (n : Nat) = i) (hk : loc[j]? = some (i, .long x)) (k : Cor Γ nL cn sn (pc + 1) loc (.long x :: stk) f) : Cor Γ nL cn sn pc loc stk f :=
  fun Q μ H locs ls hf hH hL => lv_lload_n hC.1 hC.2.1 d hi (c_at hL j hk) (k Q μ H locs ls hf hH hL)
theorem q_lload (hC : Ctx Γ own cc nL ret rm) {i : Nat} {x : Int64} (j : Nat) (d : decode cc pc = .ok (.lload i, 2)) (hk : loc[j]? = some (i, .long x)) (k : Cor Γ nL cn sn (pc + 2) loc (.long x :: stk) f) : Cor Γ nL cn sn pc loc stk f :=
  fun Q μ H locs ls hf hH hL => lv_lload hC.1 hC.2.1 d (c_at hL j hk) (k Q μ H locs ls hf hH hL)
theorem q_dload (hC : Ctx Γ own cc nL ret rm) {i : Nat} {x : UInt64} (j : Nat) (d : decode cc pc = .ok (.dload i, 2)) (hk : loc[j]? = some (i, .double x)) (k : Cor Γ nL cn sn (pc + 2) loc (.double x :: stk) f) : Cor Γ nL cn sn pc loc stk f :=
  fun Q μ H locs ls hf hH hL => lv_dload hC.1 hC.2.1 d (c_at hL j hk) (k Q μ H locs ls hf hH hL)
theorem q_aload_n (hC : Ctx Γ own cc nL ret rm) {n : Fin 4} {i x : Nat} (j : Nat) (d : decode cc pc = .ok (.aload_n n, 1)) (hi : (n : Nat) = i) (hk : loc[j]? = some (i, .ref x)) (k : Cor Γ nL cn sn (pc + 1) loc (.ref x :: stk) f) : Cor Γ nL cn sn pc loc stk f :=
  fun Q μ H locs ls hf hH hL => lv_aload_n hC.1 hC.2.1 d hi (c_at hL j hk) (k Q μ H locs ls hf hH hL)
theorem q_aload (hC : Ctx Γ own cc nL ret rm) {i x : Nat} (j : Nat) (d : decode cc pc = .ok (.aload i, 2)) (hk : loc[j]? = some (i, .ref x)) (k : Cor Γ nL cn sn (pc + 2) loc (.ref x :: stk) f) : Cor Γ nL cn sn pc loc stk f :=
  fun Q μ H locs ls hf hH hL => lv_aload hC.1 hC.2.1 d (c_at hL j hk) (k Q μ H locs ls hf hH hL)
theorem q_aload_nN (hC : Ctx Γ own cc nL ret rm) {n : Fin 4} {i : Nat} (j : Nat) (d : decode cc pc = .ok (.aload_n n, 1)) (hi : (n : Nat) = i) (hk : loc[j]? = some (i, .null)) (k : Cor Γ nL cn sn (pc + 1) loc (.null :: stk) f) : Cor Γ nL cn sn pc loc stk f :=
  fun Q μ H locs ls hf hH hL => lv_aload_nN hC.1 hC.2.1 d hi (c_at hL j hk) (k Q μ H locs ls hf hH hL)
theorem st1_map {ad : Nat → Nat} {i : Nat} {v : Value} : (i, conc ad v) :: (loc.map fun q => (q.1, conc ad q.2)).filter (fun q => !(q.1 == i) && !(q.1 + 1 == i && q.2.category == 2)) = (((i, v) :: loc.filter (fun q => !(q.1 == i) && !(q.1 + 1 == i && q.2.category == 2))).map fun q => (q.1, conc ad q.2)) := by
  rw [List.map_cons, List.filter_map]
  congr 3
  funext q
  simp [Function.comp, conc_cat]
theorem st2_map {ad : Nat → Nat} {i : Nat} {v : Value} : (i, conc ad v) :: (loc.map fun q => (q.1, conc ad q.2)).filter (fun q => !(q.1 == i) && (!(q.1 == i + 1) && !(q.1 + 1 == i && q.2.category == 2))) = (((i, v) :: loc.filter (fun q => !(q.1 == i) && (!(q.1 == i + 1) && !(q.1 + 1 == i && q.2.category == 2)))).map fun q => (q.1, conc ad q.2)) := by
  rw [List.map_cons, List.filter_map]
  congr 3
  funext q
  simp [Function.comp, conc_cat]
def st1 (i : Nat) (v : Value) (loc : List (Nat × Value)) : List (Nat × Value) := (i, v) :: loc.filter (fun q => !(q.1 == i) && !(q.1 + 1 == i && q.2.category == 2))
def st2 (i : Nat) (v : Value) (loc : List (Nat × Value)) : List (Nat × Value) := (i, v) :: loc.filter (fun q => !(q.1 == i) && (!(q.1 == i + 1) && !(q.1 + 1 == i && q.2.category == 2)))
theorem LH.st1 {ad : Nat → Nat} {ls : Array Slot} {i : Nat} {v : Value} (h : lv_has ls nL ((i, conc ad v) :: (loc.map fun q => (q.1, conc ad q.2)).filter (fun q => !(q.1 == i) && !(q.1 + 1 == i && q.2.category == 2)))) : LH ad nL ls (st1 i v loc) := by
  rw [st1_map] at h; exact h
theorem LH.st2 {ad : Nat → Nat} {ls : Array Slot} {i : Nat} {v : Value} (h : lv_has ls nL ((i, conc ad v) :: (loc.map fun q => (q.1, conc ad q.2)).filter (fun q => !(q.1 == i) && (!(q.1 == i + 1) && !(q.1 + 1 == i && q.2.category == 2))))) : LH ad nL ls (st2 i v loc) := by
  rw [st2_map] at h; exact h
theorem q_istore_n (hC : Ctx Γ own cc nL ret rm) {n : Fin 4} {i : Nat} {x : Int32} {f : Int32 → Sem} (loc' : Int32 → List (Nat × Value)) (d : decode cc pc = .ok (.istore_n n, 1)) (hi : (n : Nat) = i) (hn : i < nL) (hl : ∀ x, st1 i (.int x) loc = loc' x) (k : ∀ x, Cor Γ nL cn sn (pc + 1) (loc' x) stk (f x)) : Cor Γ nL cn sn pc loc (.int x :: stk) (lI x f) :=
  fun Q μ H locs ls hf hH hL => lv_istore_n hC.1 hC.2.1 d hi hL hn rfl (fun ls' hl' => k x Q μ H locs ls' hf hH (by rw [← hl x]; exact LH.st1 (v := .int x) hl'))
theorem q_istore_nA (hC : Ctx Γ own cc nL ret rm) {n : Fin 4} {i : Nat} {x : Int32} {loc' : List (Nat × Value)} (d : decode cc pc = .ok (.istore_n n, 1)) (hi : (n : Nat) = i) (hn : i < nL) (hl : st1 i (.int x) loc = loc') (k : Cor Γ nL cn sn (pc + 1) loc' stk f) : Cor Γ nL cn sn pc loc (.int x :: stk) f :=
  fun Q μ H locs ls hf hH hL => lv_istore_n hC.1 hC.2.1 d hi hL hn rfl (fun ls' hl' => k Q μ H locs ls' hf hH (by rw [← hl]; exact LH.st1 (v := .int x) hl'))
theorem q_istore (hC : Ctx Γ own cc nL ret rm) {i : Nat} {x : Int32} {f : Int32 → Sem} (loc' : Int32 → List (Nat × Value)) (d : decode cc pc = .ok (.istore i, 2)) (hn : i < nL) (hl : ∀ x, st1 i (.int x) loc = loc' x) (k : ∀ x, Cor Γ nL cn sn (pc + 2) (loc' x) stk (f x)) : Cor Γ nL cn sn pc loc (.int x :: stk) (lI x f) :=
  fun Q μ H locs ls hf hH hL => lv_istore hC.1 hC.2.1 d hL hn rfl (fun ls' hl' => k x Q μ H locs ls' hf hH (by rw [← hl x]; exact LH.st1 (v := .int x) hl'))
theorem q_istoreA (hC : Ctx Γ own cc nL ret rm) {i : Nat} {x : Int32} {loc' : List (Nat × Value)} (d : decode cc pc = .ok (.istore i, 2)) (hn : i < nL) (hl : st1 i (.int x) loc = loc') (k : Cor Γ nL cn sn (pc + 2) loc' stk f) : Cor Γ nL cn sn pc loc (.int x :: stk) f :=
  fun Q μ H locs ls hf hH hL => lv_istore hC.1 hC.2.1 d hL hn rfl (fun ls' hl' => k Q μ H locs ls' hf hH (by rw [← hl]; exact LH.st1 (v := .int x) hl'))
theorem q_lstore_n (hC : Ctx Γ own cc nL ret rm) {n : Fin 4} {i : Nat} {x : Int64} {f : Int64 → Sem} (loc' : Int64 → List (Nat × Value)) (d : decode cc pc = .ok (.lstore_n n, 1)) (hi : (n : Nat) = i) (hn : i + 1 < nL) (hl : ∀ x, st2 i (.long x) loc = loc' x) (k : ∀ x, Cor Γ nL cn sn (pc + 1) (loc' x) stk (f x)) : Cor Γ nL cn sn pc loc (.long x :: stk) (lJ x f) :=
  fun Q μ H locs ls hf hH hL => lv_lstore_n hC.1 hC.2.1 d hi hL hn rfl (fun ls' hl' => k x Q μ H locs ls' hf hH (by rw [← hl x]; exact LH.st2 (v := .long x) hl'))
theorem q_lstore_nA (hC : Ctx Γ own cc nL ret rm) {n : Fin 4} {i : Nat} {x : Int64} {loc' : List (Nat × Value)} (d : decode cc pc = .ok (.lstore_n n, 1)) (hi : (n : Nat) = i) (hn : i + 1 < nL) (hl : st2 i (.long x) loc = loc') (k : Cor Γ nL cn sn (pc + 1) loc' stk f) : Cor Γ nL cn sn pc loc (.long x :: stk) f :=
  fun Q μ H locs ls hf hH hL => lv_lstore_n hC.1 hC.2.1 d hi hL hn rfl (fun ls' hl' => k Q μ H locs ls' hf hH (by rw [← hl]; exact LH.st2 (v := .long x) hl'))
theorem q_lstore (hC : Ctx Γ own cc nL ret rm) {i : Nat} {x : Int64} {f : Int64 → Sem} (loc' : Int64 → List (Nat × Value)) (d : decode cc pc = .ok (.lstore i, 2)) (hn : i + 1 < nL) (hl : ∀ x, st2 i (.long x) loc = loc' x) (k : ∀ x, Cor Γ nL cn sn (pc + 2) (loc' x) stk (f x)) : Cor Γ nL cn sn pc loc (.long x :: stk) (lJ x f) :=
  fun Q μ H locs ls hf hH hL => lv_lstore hC.1 hC.2.1 d hL hn rfl (fun ls' hl' => k x Q μ H locs ls' hf hH (by rw [← hl x]; exact LH.st2 (v := .long x) hl'))
theorem q_lstoreA (hC : Ctx Γ own cc nL ret rm) {i : Nat} {x : Int64} {loc' : List (Nat × Value)} (d : decode cc pc = .ok (.lstore i, 2)) (hn : i + 1 < nL) (hl : st2 i (.long x) loc = loc') (k : Cor Γ nL cn sn (pc + 2) loc' stk f) : Cor Γ nL cn sn pc loc (.long x :: stk) f :=
  fun Q μ H locs ls hf hH hL => lv_lstore hC.1 hC.2.1 d hL hn rfl (fun ls' hl' => k Q μ H locs ls' hf hH (by rw [← hl]; exact LH.st2 (v := .long x) hl'))
theorem q_dstore_nA (hC : Ctx Γ own cc nL ret rm) {n : Fin 4} {i : Nat} {x : UInt64} {loc' : List (Nat × Value)} (d : decode cc pc = .ok (.dstore_n n, 1)) (hi : (n : Nat) = i) (hn : i + 1 < nL) (hl : st2 i (.double x) loc = loc') (k : Cor Γ nL cn sn (pc + 1) loc' stk f) : Cor Γ nL cn sn pc loc (.double x :: stk) f :=
  fun Q μ H locs ls hf hH hL => lv_dstore_n hC.1 hC.2.1 d hi hL hn rfl (fun ls' hl' => k Q μ H locs ls' hf hH (by rw [← hl]; exact LH.st2 (v := .double x) hl'))
theorem q_dstoreA (hC : Ctx Γ own cc nL ret rm) {i : Nat} {x : UInt64} {loc' : List (Nat × Value)} (d : decode cc pc = .ok (.dstore i, 2)) (hn : i + 1 < nL) (hl : st2 i (.double x) loc = loc') (k : Cor Γ nL cn sn (pc + 2) loc' stk f) : Cor Γ nL cn sn pc loc (.double x :: stk) f :=
  fun Q μ H locs ls hf hH hL => lv_dstore hC.1 hC.2.1 d hL hn rfl (fun ls' hl' => k Q μ H locs ls' hf hH (by rw [← hl]; exact LH.st2 (v := .double x) hl'))
theorem q_astore_n (hC : Ctx Γ own cc nL ret rm) {n : Fin 4} {i : Nat} {x : Nat} {loc' : List (Nat × Value)} (d : decode cc pc = .ok (.astore_n n, 1)) (hi : (n : Nat) = i) (hn : i < nL) (hl : st1 i (.ref x) loc = loc') (k : Cor Γ nL cn sn (pc + 1) loc' stk f) : Cor Γ nL cn sn pc loc (.ref x :: stk) f :=
  fun Q μ H locs ls hf hH hL => lv_astore_n hC.1 hC.2.1 d hi hL hn rfl (fun ls' hl' => k Q μ H locs ls' hf hH (by rw [← hl]; exact LH.st1 (v := .ref x) hl'))
theorem q_astore_nN (hC : Ctx Γ own cc nL ret rm) {n : Fin 4} {i : Nat} {loc' : List (Nat × Value)} (d : decode cc pc = .ok (.astore_n n, 1)) (hi : (n : Nat) = i) (hn : i < nL) (hl : st1 i (.null) loc = loc') (k : Cor Γ nL cn sn (pc + 1) loc' stk f) : Cor Γ nL cn sn pc loc (.null :: stk) f :=
  fun Q μ H locs ls hf hH hL => lv_astore_nN hC.1 hC.2.1 d hi hL hn rfl (fun ls' hl' => k Q μ H locs ls' hf hH (by rw [← hl]; exact LH.st1 (v := .null) hl'))
theorem q_astore (hC : Ctx Γ own cc nL ret rm) {i : Nat} {x : Nat} {loc' : List (Nat × Value)} (d : decode cc pc = .ok (.astore i, 2)) (hn : i < nL) (hl : st1 i (.ref x) loc = loc') (k : Cor Γ nL cn sn (pc + 2) loc' stk f) : Cor Γ nL cn sn pc loc (.ref x :: stk) f :=
  fun Q μ H locs ls hf hH hL => lv_astore hC.1 hC.2.1 d hL hn rfl (fun ls' hl' => k Q μ H locs ls' hf hH (by rw [← hl]; exact LH.st1 (v := .ref x) hl'))
theorem q_astoreN (hC : Ctx Γ own cc nL ret rm) {i : Nat} {loc' : List (Nat × Value)} (d : decode cc pc = .ok (.astore i, 2)) (hn : i < nL) (hl : st1 i (.null) loc = loc') (k : Cor Γ nL cn sn (pc + 2) loc' stk f) : Cor Γ nL cn sn pc loc (.null :: stk) f :=
  fun Q μ H locs ls hf hH hL => lv_astoreN hC.1 hC.2.1 d hL hn rfl (fun ls' hl' => k Q μ H locs ls' hf hH (by rw [← hl]; exact LH.st1 (v := .null) hl'))
theorem q_iinc (hC : Ctx Γ own cc nL ret rm) {i : Nat} {n : Int} {x : Int32} {f : Int32 → Sem} (j : Nat) (c : Int32) (loc' : Int32 → List (Nat × Value)) (d : decode cc pc = .ok (.iinc i n, 3)) (hc : Int32.ofInt n = c) (hk : loc[j]? = some (i, .int x)) (hn : i < nL) (hl : ∀ x, st1 i (.int x) loc = loc' x) (k : ∀ x, Cor Γ nL cn sn (pc + 3) (loc' x) stk (f x)) : Cor Γ nL cn sn pc loc stk (lI (x + c) f) :=
  fun Q μ H locs ls hf hH hL => lv_iinc hC.1 hC.2.1 d hL (k := j) (by rw [List.getElem?_map, hk]; rfl) (by rw [hc]) hn rfl (fun ls' hl' => k (x + c) Q μ H locs ls' hf hH (by rw [← hl (x + c)]; exact LH.st1 (v := .int (x + c)) hl'))
theorem q_iadd (hC : Ctx Γ own cc nL ret rm) {x : Int32} {y : Int32} (d : decode cc pc = .ok (.iadd, 1)) (k : Cor Γ nL cn sn (pc + 1) loc (.int (x + y) :: stk) f) : Cor Γ nL cn sn pc loc (.int y :: .int x :: stk) f :=
  fun Q μ H locs ls hf hH hL => lv_iadd hC.1 hC.2.1 d (k Q μ H locs ls hf hH hL)
theorem q_isub (hC : Ctx Γ own cc nL ret rm) {x : Int32} {y : Int32} (d : decode cc pc = .ok (.isub, 1)) (k : Cor Γ nL cn sn (pc + 1) loc (.int (x - y) :: stk) f) : Cor Γ nL cn sn pc loc (.int y :: .int x :: stk) f :=
  fun Q μ H locs ls hf hH hL => lv_isub hC.1 hC.2.1 d (k Q μ H locs ls hf hH hL)
theorem q_imul (hC : Ctx Γ own cc nL ret rm) {x : Int32} {y : Int32} (d : decode cc pc = .ok (.imul, 1)) (k : Cor Γ nL cn sn (pc + 1) loc (.int (x * y) :: stk) f) : Cor Γ nL cn sn pc loc (.int y :: .int x :: stk) f :=
  fun Q μ H locs ls hf hH hL => lv_imul hC.1 hC.2.1 d (k Q μ H locs ls hf hH hL)
theorem q_iand (hC : Ctx Γ own cc nL ret rm) {x : Int32} {y : Int32} (d : decode cc pc = .ok (.iand, 1)) (k : Cor Γ nL cn sn (pc + 1) loc (.int (x &&& y) :: stk) f) : Cor Γ nL cn sn pc loc (.int y :: .int x :: stk) f :=
  fun Q μ H locs ls hf hH hL => lv_iand hC.1 hC.2.1 d (k Q μ H locs ls hf hH hL)
theorem q_ior (hC : Ctx Γ own cc nL ret rm) {x : Int32} {y : Int32} (d : decode cc pc = .ok (.ior, 1)) (k : Cor Γ nL cn sn (pc + 1) loc (.int (x ||| y) :: stk) f) : Cor Γ nL cn sn pc loc (.int y :: .int x :: stk) f :=
  fun Q μ H locs ls hf hH hL => lv_ior hC.1 hC.2.1 d (k Q μ H locs ls hf hH hL)
theorem q_ixor (hC : Ctx Γ own cc nL ret rm) {x : Int32} {y : Int32} (d : decode cc pc = .ok (.ixor, 1)) (k : Cor Γ nL cn sn (pc + 1) loc (.int (x ^^^ y) :: stk) f) : Cor Γ nL cn sn pc loc (.int y :: .int x :: stk) f :=
  fun Q μ H locs ls hf hH hL => lv_ixor hC.1 hC.2.1 d (k Q μ H locs ls hf hH hL)
theorem q_ishl (hC : Ctx Γ own cc nL ret rm) {x : Int32} {y : Int32} (d : decode cc pc = .ok (.ishl, 1)) (k : Cor Γ nL cn sn (pc + 1) loc (.int (x <<< (y &&& 31)) :: stk) f) : Cor Γ nL cn sn pc loc (.int y :: .int x :: stk) f :=
  fun Q μ H locs ls hf hH hL => lv_ishl hC.1 hC.2.1 d (k Q μ H locs ls hf hH hL)
theorem q_ishr (hC : Ctx Γ own cc nL ret rm) {x : Int32} {y : Int32} (d : decode cc pc = .ok (.ishr, 1)) (k : Cor Γ nL cn sn (pc + 1) loc (.int (x >>> (y &&& 31)) :: stk) f) : Cor Γ nL cn sn pc loc (.int y :: .int x :: stk) f :=
  fun Q μ H locs ls hf hH hL => lv_ishr hC.1 hC.2.1 d (k Q μ H locs ls hf hH hL)
theorem q_iushr (hC : Ctx Γ own cc nL ret rm) {x : Int32} {y : Int32} (d : decode cc pc = .ok (.iushr, 1)) (k : Cor Γ nL cn sn (pc + 1) loc (.int ((x.toUInt32 >>> (y.toUInt32 &&& Int32.toUInt32 31)).toInt32) :: stk) f) : Cor Γ nL cn sn pc loc (.int y :: .int x :: stk) f :=
  fun Q μ H locs ls hf hH hL => lv_iushr hC.1 hC.2.1 d rfl (k Q μ H locs ls hf hH hL)
theorem q_ladd (hC : Ctx Γ own cc nL ret rm) {x : Int64} {y : Int64} (d : decode cc pc = .ok (.ladd, 1)) (k : Cor Γ nL cn sn (pc + 1) loc (.long (x + y) :: stk) f) : Cor Γ nL cn sn pc loc (.long y :: .long x :: stk) f :=
  fun Q μ H locs ls hf hH hL => lv_ladd hC.1 hC.2.1 d (k Q μ H locs ls hf hH hL)
theorem q_lsub (hC : Ctx Γ own cc nL ret rm) {x : Int64} {y : Int64} (d : decode cc pc = .ok (.lsub, 1)) (k : Cor Γ nL cn sn (pc + 1) loc (.long (x - y) :: stk) f) : Cor Γ nL cn sn pc loc (.long y :: .long x :: stk) f :=
  fun Q μ H locs ls hf hH hL => lv_lsub hC.1 hC.2.1 d (k Q μ H locs ls hf hH hL)
theorem q_lmul (hC : Ctx Γ own cc nL ret rm) {x : Int64} {y : Int64} (d : decode cc pc = .ok (.lmul, 1)) (k : Cor Γ nL cn sn (pc + 1) loc (.long (x * y) :: stk) f) : Cor Γ nL cn sn pc loc (.long y :: .long x :: stk) f :=
  fun Q μ H locs ls hf hH hL => lv_lmul hC.1 hC.2.1 d (k Q μ H locs ls hf hH hL)
theorem q_lxor (hC : Ctx Γ own cc nL ret rm) {x : Int64} {y : Int64} (d : decode cc pc = .ok (.lxor, 1)) (k : Cor Γ nL cn sn (pc + 1) loc (.long (x ^^^ y) :: stk) f) : Cor Γ nL cn sn pc loc (.long y :: .long x :: stk) f :=
  fun Q μ H locs ls hf hH hL => lv_lxor hC.1 hC.2.1 d (k Q μ H locs ls hf hH hL)
theorem q_idiv (hC : Ctx Γ own cc nL ret rm) {x y : Int32} (d : decode cc pc = .ok (.idiv, 1)) (k : Cor Γ nL cn sn (pc + 1) loc (.int (x / y) :: stk) f) : Cor Γ nL cn sn pc loc (.int y :: .int x :: stk) (nz y f) :=
  fun Q μ H locs ls hf hH hL => lv_idiv hC.1 hC.2.1 d hf.1 (k Q μ H locs ls hf.2 hH hL)
theorem q_irem (hC : Ctx Γ own cc nL ret rm) {x y : Int32} (d : decode cc pc = .ok (.irem, 1)) (k : Cor Γ nL cn sn (pc + 1) loc (.int (x - x / y * y) :: stk) f) : Cor Γ nL cn sn pc loc (.int y :: .int x :: stk) (nz y f) :=
  fun Q μ H locs ls hf hH hL => lv_irem hC.1 hC.2.1 d hf.1 (k Q μ H locs ls hf.2 hH hL)
theorem q_ldiv (hC : Ctx Γ own cc nL ret rm) {x y : Int64} (d : decode cc pc = .ok (.ldiv, 1)) (k : Cor Γ nL cn sn (pc + 1) loc (.long (x / y) :: stk) f) : Cor Γ nL cn sn pc loc (.long y :: .long x :: stk) (nzl y f) :=
  fun Q μ H locs ls hf hH hL => lv_ldiv hC.1 hC.2.1 d hf.1 (k Q μ H locs ls hf.2 hH hL)
theorem q_lrem (hC : Ctx Γ own cc nL ret rm) {x y : Int64} (d : decode cc pc = .ok (.lrem, 1)) (k : Cor Γ nL cn sn (pc + 1) loc (.long (x - x / y * y) :: stk) f) : Cor Γ nL cn sn pc loc (.long y :: .long x :: stk) (nzl y f) :=
  fun Q μ H locs ls hf hH hL => lv_lrem hC.1 hC.2.1 d hf.1 (k Q μ H locs ls hf.2 hH hL)
theorem q_ineg (hC : Ctx Γ own cc nL ret rm) {x : Int32} (d : decode cc pc = .ok (.ineg, 1)) (k : Cor Γ nL cn sn (pc + 1) loc (.int (-x) :: stk) f) : Cor Γ nL cn sn pc loc (.int x :: stk) f :=
  fun Q μ H locs ls hf hH hL => lv_ineg hC.1 hC.2.1 d (k Q μ H locs ls hf hH hL)
theorem q_lneg (hC : Ctx Γ own cc nL ret rm) {x : Int64} (d : decode cc pc = .ok (.lneg, 1)) (k : Cor Γ nL cn sn (pc + 1) loc (.long (-x) :: stk) f) : Cor Γ nL cn sn pc loc (.long x :: stk) f :=
  fun Q μ H locs ls hf hH hL => lv_lneg hC.1 hC.2.1 d (k Q μ H locs ls hf hH hL)
theorem q_i2l (hC : Ctx Γ own cc nL ret rm) {x : Int32} (d : decode cc pc = .ok (.i2l, 1)) (k : Cor Γ nL cn sn (pc + 1) loc (.long (x.toInt64) :: stk) f) : Cor Γ nL cn sn pc loc (.int x :: stk) f :=
  fun Q μ H locs ls hf hH hL => lv_i2l hC.1 hC.2.1 d rfl (k Q μ H locs ls hf hH hL)
theorem q_l2i (hC : Ctx Γ own cc nL ret rm) {x : Int64} (d : decode cc pc = .ok (.l2i, 1)) (k : Cor Γ nL cn sn (pc + 1) loc (.int (x.toInt32) :: stk) f) : Cor Γ nL cn sn pc loc (.long x :: stk) f :=
  fun Q μ H locs ls hf hH hL => lv_l2i hC.1 hC.2.1 d rfl (k Q μ H locs ls hf hH hL)
theorem q_i2b (hC : Ctx Γ own cc nL ret rm) {x : Int32} (d : decode cc pc = .ok (.i2b, 1)) (k : Cor Γ nL cn sn (pc + 1) loc (.int (x.toInt8.toInt32) :: stk) f) : Cor Γ nL cn sn pc loc (.int x :: stk) f :=
  fun Q μ H locs ls hf hH hL => lv_i2b hC.1 hC.2.1 d rfl (k Q μ H locs ls hf hH hL)
theorem q_i2c (hC : Ctx Γ own cc nL ret rm) {x : Int32} (d : decode cc pc = .ok (.i2c, 1)) (k : Cor Γ nL cn sn (pc + 1) loc (.int ((x.toUInt32 % 65536).toInt32) :: stk) f) : Cor Γ nL cn sn pc loc (.int x :: stk) f :=
  fun Q μ H locs ls hf hH hL => lv_i2c hC.1 hC.2.1 d rfl (k Q μ H locs ls hf hH hL)
theorem q_i2d (hC : Ctx Γ own cc nL ret rm) {x : Int32} (d : decode cc pc = .ok (.i2d, 1)) (k : Cor Γ nL cn sn (pc + 1) loc (.double (FP.i2d x) :: stk) f) : Cor Γ nL cn sn pc loc (.int x :: stk) f :=
  fun Q μ H locs ls hf hH hL => lv_i2d hC.1 hC.2.1 d (k Q μ H locs ls hf hH hL)
theorem q_i2f (hC : Ctx Γ own cc nL ret rm) {x : Int32} (d : decode cc pc = .ok (.i2f, 1)) (k : Cor Γ nL cn sn (pc + 1) loc (.float (FP.i2f x) :: stk) f) : Cor Γ nL cn sn pc loc (.int x :: stk) f :=
  fun Q μ H locs ls hf hH hL => lv_i2f hC.1 hC.2.1 d (k Q μ H locs ls hf hH hL)
theorem q_lcmp (hC : Ctx Γ own cc nL ret rm) {x y : Int64} (d : decode cc pc = .ok (.lcmp, 1)) (k : Cor Γ nL cn sn (pc + 1) loc (.int (lg_cmp x y) :: stk) f) : Cor Γ nL cn sn pc loc (.long y :: .long x :: stk) f :=
  fun Q μ H locs ls hf hH hL => W.lcmp hC.1 hC.2.1 d (k Q μ H locs ls hf hH hL)
theorem q_dcmp (hC : Ctx Γ own cc nL ret rm) {x y : UInt64} {op : CmpOp} (d : decode cc pc = .ok (.dcmp op, 1)) (k : Cor Γ nL cn sn (pc + 1) loc (.int (Op.cmpValue (FP.dcmp x y) op) :: stk) f) : Cor Γ nL cn sn pc loc (.double y :: .double x :: stk) f :=
  fun Q μ H locs ls hf hH hL => lv_dcmp hC.1 hC.2.1 d (k Q μ H locs ls hf hH hL)
theorem q_ddiv (hC : Ctx Γ own cc nL ret rm) {x y : UInt64} (d : decode cc pc = .ok (.ddiv, 1)) (k : Cor Γ nL cn sn (pc + 1) loc (.double (FP.ddiv x y) :: stk) f) : Cor Γ nL cn sn pc loc (.double y :: .double x :: stk) (nan64 (FP.ddiv x y) f) :=
  fun Q μ H locs ls hf hH hL => lv_ddiv hC.1 hC.2.1 d hf.1 (k Q μ H locs ls hf.2 hH hL)
theorem q_fdiv (hC : Ctx Γ own cc nL ret rm) {x y : UInt32} (d : decode cc pc = .ok (.fdiv, 1)) (k : Cor Γ nL cn sn (pc + 1) loc (.float (FP.fdiv x y) :: stk) f) : Cor Γ nL cn sn pc loc (.float y :: .float x :: stk) (nan32 (FP.fdiv x y) f) :=
  fun Q μ H locs ls hf hH hL => lv_fdiv hC.1 hC.2.1 d hf.1 (k Q μ H locs ls hf.2 hH hL)
theorem q_f2d (hC : Ctx Γ own cc nL ret rm) {x : UInt32} (d : decode cc pc = .ok (.f2d, 1)) (k : Cor Γ nL cn sn (pc + 1) loc (.double (FP.f2d x) :: stk) f) : Cor Γ nL cn sn pc loc (.float x :: stk) (nan64 (FP.f2d x) f) :=
  fun Q μ H locs ls hf hH hL => lv_f2d hC.1 hC.2.1 d hf.1 (k Q μ H locs ls hf.2 hH hL)
theorem q_fconst1 (hC : Ctx Γ own cc nL ret rm) (d : decode cc pc = .ok (.fconst 1, 1)) (k : Cor Γ nL cn sn (pc + 1) loc (.float FP.fconst1 :: stk) f) : Cor Γ nL cn sn pc loc stk f :=
  fun Q μ H locs ls hf hH hL => lv_fconst1 hC.1 hC.2.1 d (k Q μ H locs ls hf hH hL)
theorem q_dconst0 (hC : Ctx Γ own cc nL ret rm) (d : decode cc pc = .ok (.dconst 0, 1)) (k : Cor Γ nL cn sn (pc + 1) loc (.double FP.dconst0 :: stk) f) : Cor Γ nL cn sn pc loc stk f :=
  fun Q μ H locs ls hf hH hL => lv_dconst0 hC.1 hC.2.1 d (k Q μ H locs ls hf hH hL)
theorem q_null (hC : Ctx Γ own cc nL ret rm) (d : decode cc pc = .ok (.aconst_null, 1)) (k : Cor Γ nL cn sn (pc + 1) loc (.null :: stk) f) : Cor Γ nL cn sn pc loc stk f :=
  fun Q μ H locs ls hf hH hL => lv_null hC.1 hC.2.1 d (k Q μ H locs ls hf hH hL)
theorem q_dupI (hC : Ctx Γ own cc nL ret rm) {x : Int32} (d : decode cc pc = .ok (.dup, 1)) (k : Cor Γ nL cn sn (pc + 1) loc (.int x :: .int x :: stk) f) : Cor Γ nL cn sn pc loc (.int x :: stk) f :=
  fun Q μ H locs ls hf hH hL => lv_dup hC.1 hC.2.1 d rfl (k Q μ H locs ls hf hH hL)
theorem q_dup (hC : Ctx Γ own cc nL ret rm) {x : Nat} (d : decode cc pc = .ok (.dup, 1)) (k : Cor Γ nL cn sn (pc + 1) loc (.ref x :: .ref x :: stk) f) : Cor Γ nL cn sn pc loc (.ref x :: stk) f :=
  fun Q μ H locs ls hf hH hL => lv_dup hC.1 hC.2.1 d rfl (k Q μ H locs ls hf hH hL)
theorem q_popI (hC : Ctx Γ own cc nL ret rm) {x : Int32} (d : decode cc pc = .ok (.pop, 1)) (k : Cor Γ nL cn sn (pc + 1) loc stk f) : Cor Γ nL cn sn pc loc (.int x :: stk) f :=
  fun Q μ H locs ls hf hH hL => lv_pop hC.1 hC.2.1 d rfl (k Q μ H locs ls hf hH hL)
theorem q_if_ne (hC : Ctx Γ own cc nL ret rm) {x : Int32} {off : Int} {f g : Sem} (tgt : Nat) (d : decode cc pc = .ok (.ifCond .ne off, 3)) (ht : (pc : Int) + off = (tgt : Int)) (kt : Cor Γ nL cn sn tgt loc stk f) (kf : Cor Γ nL cn sn (pc + 3) loc stk g) : Cor Γ nL cn sn pc loc (.int x :: stk) (br (x = 0) g f) :=
  fun Q μ H locs ls hf hH hL => lv_if_ne hC.1 hC.2.1 d ht (fun h => kt Q μ H locs ls (hf.2 h) hH hL) (fun h => kf Q μ H locs ls (hf.1 h) hH hL)
theorem q_ic_ne (hC : Ctx Γ own cc nL ret rm) {x y : Int32} {off : Int} {f g : Sem} (tgt : Nat) (d : decode cc pc = .ok (.if_icmp .ne off, 3)) (ht : (pc : Int) + off = (tgt : Int)) (kt : Cor Γ nL cn sn tgt loc stk f) (kf : Cor Γ nL cn sn (pc + 3) loc stk g) : Cor Γ nL cn sn pc loc (.int y :: .int x :: stk) (br (x = y) g f) :=
  fun Q μ H locs ls hf hH hL => lv_icmp_ne hC.1 hC.2.1 d ht (fun h => kt Q μ H locs ls (hf.2 h) hH hL) (fun h => kf Q μ H locs ls (hf.1 h) hH hL)
theorem q_if_eq (hC : Ctx Γ own cc nL ret rm) {x : Int32} {off : Int} {f g : Sem} (tgt : Nat) (d : decode cc pc = .ok (.ifCond .eq off, 3)) (ht : (pc : Int) + off = (tgt : Int)) (kt : Cor Γ nL cn sn tgt loc stk f) (kf : Cor Γ nL cn sn (pc + 3) loc stk g) : Cor Γ nL cn sn pc loc (.int x :: stk) (br (x = 0) f g) :=
  fun Q μ H locs ls hf hH hL => lv_if_eq hC.1 hC.2.1 d ht (fun h => kt Q μ H locs ls (hf.1 h) hH hL) (fun h => kf Q μ H locs ls (hf.2 h) hH hL)
theorem q_ic_eq (hC : Ctx Γ own cc nL ret rm) {x y : Int32} {off : Int} {f g : Sem} (tgt : Nat) (d : decode cc pc = .ok (.if_icmp .eq off, 3)) (ht : (pc : Int) + off = (tgt : Int)) (kt : Cor Γ nL cn sn tgt loc stk f) (kf : Cor Γ nL cn sn (pc + 3) loc stk g) : Cor Γ nL cn sn pc loc (.int y :: .int x :: stk) (br (x = y) f g) :=
  fun Q μ H locs ls hf hH hL => lv_icmp_eq hC.1 hC.2.1 d ht (fun h => kt Q μ H locs ls (hf.1 h) hH hL) (fun h => kf Q μ H locs ls (hf.2 h) hH hL)
theorem q_if_lt (hC : Ctx Γ own cc nL ret rm) {x : Int32} {off : Int} {f g : Sem} (tgt : Nat) (d : decode cc pc = .ok (.ifCond .lt off, 3)) (ht : (pc : Int) + off = (tgt : Int)) (kt : Cor Γ nL cn sn tgt loc stk f) (kf : Cor Γ nL cn sn (pc + 3) loc stk g) : Cor Γ nL cn sn pc loc (.int x :: stk) (br (x < 0) f g) :=
  fun Q μ H locs ls hf hH hL => lv_if_lt hC.1 hC.2.1 d ht (fun h => kt Q μ H locs ls (hf.1 h) hH hL) (fun h => kf Q μ H locs ls (hf.2 h) hH hL)
theorem q_ic_lt (hC : Ctx Γ own cc nL ret rm) {x y : Int32} {off : Int} {f g : Sem} (tgt : Nat) (d : decode cc pc = .ok (.if_icmp .lt off, 3)) (ht : (pc : Int) + off = (tgt : Int)) (kt : Cor Γ nL cn sn tgt loc stk f) (kf : Cor Γ nL cn sn (pc + 3) loc stk g) : Cor Γ nL cn sn pc loc (.int y :: .int x :: stk) (br (x < y) f g) :=
  fun Q μ H locs ls hf hH hL => lv_icmp_lt hC.1 hC.2.1 d ht (fun h => kt Q μ H locs ls (hf.1 h) hH hL) (fun h => kf Q μ H locs ls (hf.2 h) hH hL)
theorem q_if_ge (hC : Ctx Γ own cc nL ret rm) {x : Int32} {off : Int} {f g : Sem} (tgt : Nat) (d : decode cc pc = .ok (.ifCond .ge off, 3)) (ht : (pc : Int) + off = (tgt : Int)) (kt : Cor Γ nL cn sn tgt loc stk f) (kf : Cor Γ nL cn sn (pc + 3) loc stk g) : Cor Γ nL cn sn pc loc (.int x :: stk) (br (0 ≤ x) f g) :=
  fun Q μ H locs ls hf hH hL => lv_if_ge hC.1 hC.2.1 d ht (fun h => kt Q μ H locs ls (hf.1 h) hH hL) (fun h => kf Q μ H locs ls (hf.2 h) hH hL)
theorem q_ic_ge (hC : Ctx Γ own cc nL ret rm) {x y : Int32} {off : Int} {f g : Sem} (tgt : Nat) (d : decode cc pc = .ok (.if_icmp .ge off, 3)) (ht : (pc : Int) + off = (tgt : Int)) (kt : Cor Γ nL cn sn tgt loc stk f) (kf : Cor Γ nL cn sn (pc + 3) loc stk g) : Cor Γ nL cn sn pc loc (.int y :: .int x :: stk) (br (y ≤ x) f g) :=
  fun Q μ H locs ls hf hH hL => lv_icmp_ge hC.1 hC.2.1 d ht (fun h => kt Q μ H locs ls (hf.1 h) hH hL) (fun h => kf Q μ H locs ls (hf.2 h) hH hL)
theorem q_if_gt (hC : Ctx Γ own cc nL ret rm) {x : Int32} {off : Int} {f g : Sem} (tgt : Nat) (d : decode cc pc = .ok (.ifCond .gt off, 3)) (ht : (pc : Int) + off = (tgt : Int)) (kt : Cor Γ nL cn sn tgt loc stk f) (kf : Cor Γ nL cn sn (pc + 3) loc stk g) : Cor Γ nL cn sn pc loc (.int x :: stk) (br (0 < x) f g) :=
  fun Q μ H locs ls hf hH hL => lv_if_gt hC.1 hC.2.1 d ht (fun h => kt Q μ H locs ls (hf.1 h) hH hL) (fun h => kf Q μ H locs ls (hf.2 h) hH hL)
theorem q_ic_gt (hC : Ctx Γ own cc nL ret rm) {x y : Int32} {off : Int} {f g : Sem} (tgt : Nat) (d : decode cc pc = .ok (.if_icmp .gt off, 3)) (ht : (pc : Int) + off = (tgt : Int)) (kt : Cor Γ nL cn sn tgt loc stk f) (kf : Cor Γ nL cn sn (pc + 3) loc stk g) : Cor Γ nL cn sn pc loc (.int y :: .int x :: stk) (br (y < x) f g) :=
  fun Q μ H locs ls hf hH hL => lv_icmp_gt hC.1 hC.2.1 d ht (fun h => kt Q μ H locs ls (hf.1 h) hH hL) (fun h => kf Q μ H locs ls (hf.2 h) hH hL)
theorem q_if_le (hC : Ctx Γ own cc nL ret rm) {x : Int32} {off : Int} {f g : Sem} (tgt : Nat) (d : decode cc pc = .ok (.ifCond .le off, 3)) (ht : (pc : Int) + off = (tgt : Int)) (kt : Cor Γ nL cn sn tgt loc stk f) (kf : Cor Γ nL cn sn (pc + 3) loc stk g) : Cor Γ nL cn sn pc loc (.int x :: stk) (br (x ≤ 0) f g) :=
  fun Q μ H locs ls hf hH hL => lv_if_le hC.1 hC.2.1 d ht (fun h => kt Q μ H locs ls (hf.1 h) hH hL) (fun h => kf Q μ H locs ls (hf.2 h) hH hL)
theorem q_ic_le (hC : Ctx Γ own cc nL ret rm) {x y : Int32} {off : Int} {f g : Sem} (tgt : Nat) (d : decode cc pc = .ok (.if_icmp .le off, 3)) (ht : (pc : Int) + off = (tgt : Int)) (kt : Cor Γ nL cn sn tgt loc stk f) (kf : Cor Γ nL cn sn (pc + 3) loc stk g) : Cor Γ nL cn sn pc loc (.int y :: .int x :: stk) (br (x ≤ y) f g) :=
  fun Q μ H locs ls hf hH hL => lv_icmp_le hC.1 hC.2.1 d ht (fun h => kt Q μ H locs ls (hf.1 h) hH hL) (fun h => kf Q μ H locs ls (hf.2 h) hH hL)
theorem q_goto (hC : Ctx Γ own cc nL ret rm) {off : Int} (tgt : Nat) (d : decode cc pc = .ok (.goto off, 3)) (ht : (pc : Int) + off = (tgt : Int)) (k : Cor Γ nL cn sn tgt loc stk f) : Cor Γ nL cn sn pc loc stk f :=
  fun Q μ H locs ls hf hH hL => lv_goto hC.1 hC.2.1 d ht (k Q μ H locs ls hf hH hL)
theorem q_ifnull (hC : Ctx Γ own cc nL ret rm) {x : Nat} {off : Int} (d : decode cc pc = .ok (.ifnull off, 3)) (k : Cor Γ nL cn sn (pc + 3) loc stk f) : Cor Γ nL cn sn pc loc (.ref x :: stk) f :=
  fun Q μ H locs ls hf hH hL => lv_ifnull hC.1 hC.2.1 d (k Q μ H locs ls hf hH hL)
theorem q_ifnullN (hC : Ctx Γ own cc nL ret rm) {off : Int} (tgt : Nat) (d : decode cc pc = .ok (.ifnull off, 3)) (ht : (pc : Int) + off = (tgt : Int)) (k : Cor Γ nL cn sn tgt loc stk f) : Cor Γ nL cn sn pc loc (.null :: stk) f :=
  fun Q μ H locs ls hf hH hL => lv_ifnullN hC.1 hC.2.1 d ht (k Q μ H locs ls hf hH hL)
theorem q_sw (hC : Ctx Γ own cc nL ret rm) {dflt lo hi : Int} {offs : Array Int} {len : Nat} {x : Int32} {f : Nat → Sem} (lo' : Int32) (n : Nat) (tg : Nat → Nat) (d : decode cc pc = .ok (.tableswitch dflt lo hi offs, len)) (hlo : lo'.toInt = lo) (hhi : hi = lo + n - 1)
    (ho : ∀ i, i < n → offs[i]? = some (((tg i : Nat) : Int) - (pc : Int))) (hd : (pc : Int) + dflt = ((tg n : Nat) : Int)) (k : ∀ i, i ≤ n → Cor Γ nL cn sn (tg i) loc stk (f i)) : Cor Γ nL cn sn pc loc (.int x :: stk) (sw x lo' n f) := by
  intro Q μ H locs ls hf hH hL
  have hf : f (if lo'.toInt ≤ x.toInt ∧ x.toInt < lo'.toInt + n then (x.toInt - lo'.toInt).toNat else n) μ Q := hf
  by_cases hin : lo'.toInt ≤ x.toInt ∧ x.toInt < lo'.toInt + n
  · rw [if_pos hin] at hf
    have hlt : (x.toInt - lo'.toInt).toNat < n := by omega
    refine lv_tableIn (off := ((tg (x.toInt - lo'.toInt).toNat : Nat) : Int) - (pc : Int)) hC.1 hC.2.1 d (by omega) (by omega) (by rw [← hlo]; exact ho _ hlt) (by omega) (k _ (by omega) Q μ H locs ls hf hH hL)
  · rw [if_neg hin] at hf
    exact lv_tableOut hC.1 hC.2.1 d (by omega) hd (k n (Nat.le_refl n) Q μ H locs ls hf hH hL)
theorem q_ldc (hC : Ctx Γ own cc nL ret rm) {index : Nat} {v : Int32} (hw : Cond.constant own index v ∈ gw) (d : decode cc pc = .ok (.ldc index, 2)) (k : Cor Γ nL cn sn (pc + 2) loc (.int v :: stk) f) : Cor Γ nL cn sn pc loc stk f :=
  fun Q μ H locs ls hf hH hL => lv_ldc hC.1 hC.2.1 hC.2.2.2.2.1 (hC.2.2.2.2.2.1 _ hw) d (k Q μ H locs ls hf hH hL)
theorem q_ldc2 (hC : Ctx Γ own cc nL ret rm) {index : Nat} {v : Int64} (hw : Cond.constantLong own index v ∈ gw) (d : decode cc pc = .ok (.ldc2_w index, 3)) (k : Cor Γ nL cn sn (pc + 3) loc (.long v :: stk) f) : Cor Γ nL cn sn pc loc stk f :=
  fun Q μ H locs ls hf hH hL => lv_ldc2 hC.1 hC.2.1 hC.2.2.2.2.1 (hC.2.2.2.2.2.1 _ hw) d (k Q μ H locs ls hf hH hL)
end Ins
