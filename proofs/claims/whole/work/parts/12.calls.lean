section Calls12
variable {Γ : CT} {own : String} {cc : ByteArray} {nL cn sn pc : Nat} {ret : Option FieldType} {rm : Room} {loc : List (Nat × Value)} {stk : List Value} {f : Sem}
abbrev RunOf (Γ : CT) (H : Heap) (locs : List Loc) (cn sn pc : Nat) (ls : Array Slot) (st0 rest : List Value) (mc ms : Nat) (μ : Mem) (Q1 : Post) (a : Array Value) : Prop :=
  vx_Run (kP Γ) (kL Γ) (kE Γ) (kR Γ) (kS Γ) (kM Γ) (kAr Γ) (kB Γ) (kMe Γ) (kC Γ) H locs cn sn mc ms (F0 (kM Γ) pc ls st0) rest (QcOf (kG Γ) (va_A (GW (kG Γ) μ) H.size) Q1 a) (XcOf (kG Γ) (va_A (GW (kG Γ) μ) H.size) Q1) (va_A (GW (kG Γ) μ) H.size)
theorem gw_V {own C : String} {idx : Nat} {y : MethodName} {w : Cond} (h1 : Cond.methodLink own idx y ∈ gw) (h2 : Cond.instanceMethod y ∈ gw) (h3 : Cond.selects C y y ∈ gw) (h4 : Cond.initialized C ∈ gw) (h5 : w ∈ gw) : GoodIn gw (wsV own idx C y (w :: gw)) := by
  intro v hv
  have h : v ∈ gw := by
    simp only [wsV, List.mem_append, List.mem_cons, List.not_mem_nil, or_false] at hv
    rcases hv with (rfl | rfl | rfl | rfl) | rfl | h <;> assumption
  exact gw_good _ h
theorem gw_S {own : String} {idx : Nat} {y : MethodName} {w : Cond} (h1 : Cond.methodLink own idx y ∈ gw) (h2 : Cond.static y ∈ gw) (h4 : Cond.initialized y.cls ∈ gw) (h5 : w ∈ gw) : GoodIn gw (va_wsS own idx y (w :: gw)) := by
  intro v hv
  have h : v ∈ gw := by
    simp only [va_wsS, List.mem_append, List.mem_cons, List.not_mem_nil, or_false] at hv
    rcases hv with (rfl | rfl | rfl) | rfl | h <;> assumption
  exact gw_good _ h
theorem fixOf (hC : Ctx Γ own cc nL ret rm) : CallFix (kP Γ) (kM Γ) (kC Γ) cc nL (kS Γ) (kAr Γ) gw own := ⟨hC.1, hC.2.1, hC.2.2.1, hC.2.2.2.2.1, hC.2.2.2.2.2.1⟩
theorem stk_cat {ad : Nat → Nat} (stk : List Value) : ((stk.map (conc ad)).map fun v => v.category).sum = (stk.map fun v => v.category).sum := by
  rw [List.map_map]
  congr 1
  exact List.map_congr_left (fun v _ => conc_cat ad v)
/-- what the call's own numbers must say -/
def roomOk (rm' rm : Room) (maxL cn sn : Nat) : Bool := decide (rm'.frames + 1 ≤ rm.frames) && decide (8 + (maxL + 11) + rm'.locals ≤ rm.locals) && decide (cn + rm'.cells ≤ rm.cells) && decide (sn + rm'.slots ≤ rm.slots)
theorem roomOk_use {rm' rm : Room} {maxL cn sn : Nat} (h : roomOk rm' rm maxL cn sn = true) : (rm'.frames + 1 ≤ rm.frames ∧ 8 + (maxL + 11) + rm'.locals ≤ rm.locals) ∧ cn + rm'.cells ≤ rm.cells ∧ sn + rm'.slots ≤ rm.slots := by
  simp only [roomOk, Bool.and_eq_true, decide_eq_true_eq] at h
  exact ⟨⟨h.1.1.1, h.1.1.2⟩, h.1.2, h.2⟩
def nameOk (y : MethodName) (n : Nat) : Bool := decide (y.cls ≠ "java/lang/invoke/MethodHandle") && decide (y.cls ≠ "java/lang/invoke/VarHandle") && decide ((parseMethodDescriptor y.desc).map (fun d => d.parameters.length) = some n)
theorem nameOk_use {y : MethodName} {n : Nat} (h : nameOk y n = true) : y.cls ≠ "java/lang/invoke/MethodHandle" ∧ y.cls ≠ "java/lang/invoke/VarHandle" ∧ (parseMethodDescriptor y.desc).map (fun d => d.parameters.length) = some n := by
  simp only [nameOk, Bool.and_eq_true, decide_eq_true_eq] at h
  exact ⟨h.1.1, h.1.2, h.2⟩
theorem recvOf (hC : Ctx Γ own cc nL ret rm) {μ : Mem} {H : Heap} {locs : List Loc} (hH : Hld Γ H locs μ) {q ci : Nat} (hci : ci < 12) (h1 : kd q = (0, ci)) (h2 : q < μ.1) : ∃ cell : Cell, H[kD Γ q]? = some cell ∧ cell.vm.isStatics = false ∧ (kS Γ).vm.findClass (clR ci) = some cell.cls :=
  va_recv (D := (kG Γ).1) (cl := vwCl) hC.2.2.2.2.2.2.2.2.1 hH.1 (vwCl_at hci) ((wld_at (aC := (kG Γ).2.1) (ad := kD Γ) h2).trans (by rw [cellE_obj h1]))
theorem r_V (hC : Ctx Γ own cc nL ret rm) {y : MethodName} {bytes : ByteArray} {maxL index ci q : Nat} {retY : Option FieldType} {rm' : Room} {S : ST} (hS : Snd y (.code y bytes maxL retY) rm' S) (hci : ci < 12) (hy : y.cls = clR ci) {as : List Value} (hn : nameOk y as.length = true) (hR : roomOk rm' rm maxL cn sn = true)
    (h1 : Cond.methodLink own index y ∈ gw) (h2 : Cond.instanceMethod y ∈ gw) (h3 : Cond.selects (clR ci) y y ∈ gw) (h4 : Cond.initialized (clR ci) ∈ gw) (h5 : Cond.code y bytes maxL retY ∈ gw) (hk : (stk.map fun v => v.category).sum ≤ 8) (d : decode cc pc = .ok (.invokevirtual index, 3))
    {Q1 : Post} {μ : Mem} {H : Heap} {locs : List Loc} {ls : Array Slot} (hq : S (.ref q :: as) μ Q1) (ho : kd q = (0, ci) ∧ q < μ.1) (hH : Hld Γ H locs μ) (hL : LH (kD Γ) nL ls loc) :
    RunOf Γ H locs cn sn pc ls ((as.reverse ++ .ref q :: stk).map (conc (kD Γ))) (stk.map (conc (kD Γ))) rm'.cells rm'.slots μ Q1 (Value.ref (kD Γ q) :: as.map (conc (kD Γ))).toArray := by
  obtain ⟨hR1, hR2, hR3⟩ := roomOk_use hR
  have hbR := hC.2.2.2.2.2.2.2.2.2.2.2.1
  refine vx_runV (As := as.map (conc (kD Γ))) (rest := stk.map (conc (kD Γ))) (fixOf hC) (hS (kL Γ) hC.2.2.2.2.2.2.2.1 (kG Γ) H.size _ μ Q1 hq) (cwV as.length hC.2.2.2.2.2.1 (gw_V h1 h2 h3 h4 h5) rfl rfl rfl ⟨hy, nameOk_use hn⟩ (by rw [hbR]; exact hR1)) ⟨SPc_blind, recvOf hC hH hci ho.1 ho.2, pre_U hC hH rfl⟩ rfl (by rw [List.length_map]) hL.1 ?_ (lv_room (by rw [stk_cat]; exact hk)) d (by rw [hbR]; exact ⟨hR2, hR3⟩)
  show (as.reverse ++ .ref q :: stk).map (conc (kD Γ)) = (as.map (conc (kD Γ))).reverse ++ .ref (kD Γ q) :: stk.map (conc (kD Γ))
  rw [List.map_append, List.map_reverse, List.map_cons]
  rfl
theorem r_S (hC : Ctx Γ own cc nL ret rm) {y : MethodName} {bytes : ByteArray} {maxL index : Nat} {retY : Option FieldType} {rm' : Room} {S : ST} (hS : Snd y (.code y bytes maxL retY) rm' S) {as : List Value} (hn : nameOk y as.length = true) (hR : roomOk rm' rm maxL cn sn = true)
    (h1 : Cond.methodLink own index y ∈ gw) (h2 : Cond.static y ∈ gw) (h4 : Cond.initialized y.cls ∈ gw) (h5 : Cond.code y bytes maxL retY ∈ gw) (hk : (stk.map fun v => v.category).sum ≤ 8) (d : decode cc pc = .ok (.invokestatic index, 3))
    {Q1 : Post} {μ : Mem} {H : Heap} {locs : List Loc} {ls : Array Slot} (hq : S as μ Q1) (hH : Hld Γ H locs μ) (hL : LH (kD Γ) nL ls loc) :
    RunOf Γ H locs cn sn pc ls ((as.reverse ++ stk).map (conc (kD Γ))) (stk.map (conc (kD Γ))) rm'.cells rm'.slots μ Q1 (as.map (conc (kD Γ))).toArray := by
  obtain ⟨hR1, hR2, hR3⟩ := roomOk_use hR
  have hbR := hC.2.2.2.2.2.2.2.2.2.2.2.1
  refine vx_runS (As := as.map (conc (kD Γ))) (rest := stk.map (conc (kD Γ))) (fixOf hC) (hS (kL Γ) hC.2.2.2.2.2.2.2.1 (kG Γ) H.size _ μ Q1 hq) (va_cwS as.length hC.2.2.2.2.2.1 (gw_S h1 h2 h4 h5) rfl rfl rfl (nameOk_use hn) (by rw [hbR]; exact hR1)) ⟨SPc_blind, pre_U hC hH rfl⟩ rfl (by rw [List.length_map]) hL.1 ?_ (lv_room (by rw [stk_cat]; exact hk)) d (by rw [hbR]; exact ⟨hR2, hR3⟩)
  show (as.reverse ++ stk).map (conc (kD Γ)) = (as.map (conc (kD Γ))).reverse ++ stk.map (conc (kD Γ))
  rw [List.map_append, List.map_reverse]
theorem r_N (hC : Ctx Γ own cc nL ret rm) {y : MethodName} {host : String} {bytes : ByteArray} {maxL index : Nat} {retY : Option FieldType} {rm' : Room} {S : ST} (hS : Snd y (.code y bytes maxL retY) rm' S) {as : List Value} (hn : nameOk y as.length = true) (hR : roomOk rm' rm maxL cn sn = true)
    (h1 : Cond.methodLinkNest own index y host ∈ lw_tbl) (h2 : Cond.static y ∈ gw) (h4 : Cond.initialized y.cls ∈ gw) (h5 : Cond.code y bytes maxL retY ∈ gw) (hk : (stk.map fun v => v.category).sum ≤ 8) (d : decode cc pc = .ok (.invokestatic index, 3))
    {Q1 : Post} {μ : Mem} {H : Heap} {locs : List Loc} {ls : Array Slot} (hq : S as μ Q1) (hH : Hld Γ H locs μ) (hL : LH (kD Γ) nL ls loc) :
    RunOf Γ H locs cn sn pc ls ((as.reverse ++ stk).map (conc (kD Γ))) (stk.map (conc (kD Γ))) rm'.cells rm'.slots μ Q1 (as.map (conc (kD Γ))).toArray := by
  obtain ⟨hR1, hR2, hR3⟩ := roomOk_use hR
  have hbR := hC.2.2.2.2.2.2.2.2.2.2.2.1
  refine vx_runSN (host := host) (As := as.map (conc (kD Γ))) (rest := stk.map (conc (kD Γ))) (fixOf hC) (hS (kL Γ) hC.2.2.2.2.2.2.2.1 (kG Γ) H.size _ μ Q1 hq) ⟨va_cnB as.length hC.2.2.2.2.2.1 (gw_ws h5) rfl rfl rfl (hC.2.2.2.2.2.2.2.2.2.2.1.2.2.2.2.2.2.2.1 _ h1 rfl) (hC.2.2.2.2.2.1 _ h4) (nameOk_use hn) (by rw [hbR]; exact hR1), hC.2.2.2.2.2.1 _ h2, trivial⟩ ⟨SPc_blind, pre_U hC hH rfl⟩ rfl (by rw [List.length_map]) hL.1 ?_ (lv_room (by rw [stk_cat]; exact hk)) d (by rw [hbR]; exact ⟨hR2, hR3⟩)
  show (as.reverse ++ stk).map (conc (kD Γ)) = (as.map (conc (kD Γ))).reverse ++ stk.map (conc (kD Γ))
  rw [List.map_append, List.map_reverse]
theorem r_I (hC : Ctx Γ own cc nL ret rm) {y : MethodName} {bytes : ByteArray} {maxL index q : Nat} {rm' : Room} {S : ST} (hS : Snd y (.code y bytes maxL none) rm' S) (hy : y.name = "<init>") {as : List Value} (hn : nameOk y as.length = true) (hR : roomOk rm' rm maxL cn sn = true)
    (h1 : Cond.methodLink own index y ∈ gw) (h2 : Cond.instanceMethod y ∈ gw) (h4 : Cond.initialized y.cls ∈ gw) (h5 : Cond.code y bytes maxL none ∈ gw) (hk : (stk.map fun v => v.category).sum ≤ 8) (d : decode cc pc = .ok (.invokespecial index, 3))
    {Q1 : Post} {μ : Mem} {H : Heap} {locs : List Loc} {ls : Array Slot} (hq : S (.ref q :: as) μ Q1) (hH : Hld Γ H locs μ) (hL : LH (kD Γ) nL ls loc) :
    RunOf Γ H locs cn sn pc ls ((as.reverse ++ .ref q :: stk).map (conc (kD Γ))) (stk.map (conc (kD Γ))) rm'.cells rm'.slots μ Q1 (Value.ref (kD Γ q) :: as.map (conc (kD Γ))).toArray := by
  obtain ⟨hR1, hR2, hR3⟩ := roomOk_use hR
  have hbR := hC.2.2.2.2.2.2.2.2.2.2.2.1
  refine vx_runI (As := as.map (conc (kD Γ))) (rest := stk.map (conc (kD Γ))) (fixOf hC) (hS (kL Γ) hC.2.2.2.2.2.2.2.1 (kG Γ) H.size _ μ Q1 hq) ⟨callB_of as.length hC.2.2.2.2.2.1 (gw_ws h5) rfl rfl rfl (hC.2.2.2.2.2.1 _ h4) (hC.2.2.2.2.2.1 _ h1) (nameOk_use hn) (by rw [hbR]; exact hR1), hy, hC.2.2.2.2.2.1 _ h2⟩ ⟨SPc_blind, pre_U hC hH rfl⟩ rfl (by rw [List.length_map]) hL.1 ?_ (lv_room (by rw [stk_cat]; exact hk)) d (by rw [hbR]; exact ⟨hR2, hR3⟩)
  show (as.reverse ++ .ref q :: stk).map (conc (kD Γ)) = (as.map (conc (kD Γ))).reverse ++ .ref (kD Γ q) :: stk.map (conc (kD Γ))
  rw [List.map_append, List.map_reverse, List.map_cons]
  rfl
theorem r_IN (hC : Ctx Γ own cc nL ret rm) {y : MethodName} {host : String} {bytes : ByteArray} {maxL index q : Nat} {rm' : Room} {S : ST} (hS : Snd y (.code y bytes maxL none) rm' S) (hy : y.name = "<init>") {as : List Value} (hn : nameOk y as.length = true) (hR : roomOk rm' rm maxL cn sn = true)
    (h1 : Cond.methodLinkNest own index y host ∈ lw_tbl) (h2 : Cond.instanceMethod y ∈ gw) (h4 : Cond.initialized y.cls ∈ gw) (h5 : Cond.code y bytes maxL none ∈ gw) (hk : (stk.map fun v => v.category).sum ≤ 8) (d : decode cc pc = .ok (.invokespecial index, 3))
    {Q1 : Post} {μ : Mem} {H : Heap} {locs : List Loc} {ls : Array Slot} (hq : S (.ref q :: as) μ Q1) (hH : Hld Γ H locs μ) (hL : LH (kD Γ) nL ls loc) :
    RunOf Γ H locs cn sn pc ls ((as.reverse ++ .ref q :: stk).map (conc (kD Γ))) (stk.map (conc (kD Γ))) rm'.cells rm'.slots μ Q1 (Value.ref (kD Γ q) :: as.map (conc (kD Γ))).toArray := by
  obtain ⟨hR1, hR2, hR3⟩ := roomOk_use hR
  have hbR := hC.2.2.2.2.2.2.2.2.2.2.2.1
  refine vx_runIN (host := host) (As := as.map (conc (kD Γ))) (rest := stk.map (conc (kD Γ))) (fixOf hC) (hS (kL Γ) hC.2.2.2.2.2.2.2.1 (kG Γ) H.size _ μ Q1 hq) ⟨va_cnB as.length hC.2.2.2.2.2.1 (gw_ws h5) rfl rfl rfl (hC.2.2.2.2.2.2.2.2.2.2.1.2.2.2.2.2.2.2.1 _ h1 rfl) (hC.2.2.2.2.2.1 _ h4) (nameOk_use hn) (by rw [hbR]; exact hR1), hy, hC.2.2.2.2.2.1 _ h2⟩ ⟨SPc_blind, pre_U hC hH rfl⟩ rfl (by rw [List.length_map]) hL.1 ?_ (lv_room (by rw [stk_cat]; exact hk)) d (by rw [hbR]; exact ⟨hR2, hR3⟩)
  show (as.reverse ++ .ref q :: stk).map (conc (kD Γ)) = (as.map (conc (kD Γ))).reverse ++ .ref (kD Γ q) :: stk.map (conc (kD Γ))
  rw [List.map_append, List.map_reverse, List.map_cons]
  rfl
/-- no handlers in this body -/
abbrev NT (Γ : CT) : Prop := ∀ x ∈ (kC Γ).exceptionTable.toList, False
def ob (ci q : Nat) (f : Sem) : Sem := fun μ Q => kd q = (0, ci) ∧ q < μ.1 ∧ f μ Q
theorem k_I (hC : Ctx Γ own cc nL ret rm) (hnt : NT Γ) {f : Int32 → Sem} {mc ms : Nat} (hR : cn + mc ≤ rm.cells ∧ sn + ms ≤ rm.slots) {Q : Post} {μ : Mem} {H : Heap} {locs : List Loc} {ls : Array Slot} {st0 : List Value} {a : Array Value} (hH : Hld Γ H locs μ) (hL : LH (kD Γ) nL ls loc)
    (hr : RunOf Γ H locs cn sn pc ls st0 (stk.map (conc (kD Γ))) mc ms μ (fun r μ1 => match r with
  | .inl (some (.int v)) => f v μ1 Q
  | .inr E => Q (.inr E) μ1
  | _ => False) a) (kk : (∀ v, Cor Γ nL (cn + mc) (sn + ms) (pc + 3) loc (.int v :: stk) (f v))) : WG Γ H locs cn sn Q (F0 (kM Γ) pc ls st0) := by
  refine q_run hC hH hr (fun v μ1 H1 locs1 hq hH1 => ?_) (fun k μ1 H1 locs1 q ce hq hH1 hce hcv hcl => q_out hC hnt hH1 hq hR.1 hR.2 hce hcv hcl)
  match v, hq with
  | some (.int v), hq => exact kk v Q μ1 H1 locs1 ls hq hH1 hL
  | none, hq => exact hq.elim
  | some .null, hq => exact hq.elim
  | some (.long _), hq => exact hq.elim
  | some (.float _), hq => exact hq.elim
  | some (.double _), hq => exact hq.elim
  | some (.ref _), hq => exact hq.elim
  | some (.retAddr _), hq => exact hq.elim
theorem k_J (hC : Ctx Γ own cc nL ret rm) (hnt : NT Γ) {f : Int64 → Sem} {mc ms : Nat} (hR : cn + mc ≤ rm.cells ∧ sn + ms ≤ rm.slots) {Q : Post} {μ : Mem} {H : Heap} {locs : List Loc} {ls : Array Slot} {st0 : List Value} {a : Array Value} (hH : Hld Γ H locs μ) (hL : LH (kD Γ) nL ls loc)
    (hr : RunOf Γ H locs cn sn pc ls st0 (stk.map (conc (kD Γ))) mc ms μ (fun r μ1 => match r with
  | .inl (some (.long v)) => f v μ1 Q
  | .inr E => Q (.inr E) μ1
  | _ => False) a) (kk : (∀ v, Cor Γ nL (cn + mc) (sn + ms) (pc + 3) loc (.long v :: stk) (f v))) : WG Γ H locs cn sn Q (F0 (kM Γ) pc ls st0) := by
  refine q_run hC hH hr (fun v μ1 H1 locs1 hq hH1 => ?_) (fun k μ1 H1 locs1 q ce hq hH1 hce hcv hcl => q_out hC hnt hH1 hq hR.1 hR.2 hce hcv hcl)
  match v, hq with
  | some (.long v), hq => exact kk v Q μ1 H1 locs1 ls hq hH1 hL
  | none, hq => exact hq.elim
  | some .null, hq => exact hq.elim
  | some (.int _), hq => exact hq.elim
  | some (.float _), hq => exact hq.elim
  | some (.double _), hq => exact hq.elim
  | some (.ref _), hq => exact hq.elim
  | some (.retAddr _), hq => exact hq.elim
theorem k_D (hC : Ctx Γ own cc nL ret rm) (hnt : NT Γ) {f : UInt64 → Sem} {mc ms : Nat} (hR : cn + mc ≤ rm.cells ∧ sn + ms ≤ rm.slots) {Q : Post} {μ : Mem} {H : Heap} {locs : List Loc} {ls : Array Slot} {st0 : List Value} {a : Array Value} (hH : Hld Γ H locs μ) (hL : LH (kD Γ) nL ls loc)
    (hr : RunOf Γ H locs cn sn pc ls st0 (stk.map (conc (kD Γ))) mc ms μ (fun r μ1 => match r with
  | .inl (some (.double v)) => f v μ1 Q
  | .inr E => Q (.inr E) μ1
  | _ => False) a) (kk : (∀ v, Cor Γ nL (cn + mc) (sn + ms) (pc + 3) loc (.double v :: stk) (f v))) : WG Γ H locs cn sn Q (F0 (kM Γ) pc ls st0) := by
  refine q_run hC hH hr (fun v μ1 H1 locs1 hq hH1 => ?_) (fun k μ1 H1 locs1 q ce hq hH1 hce hcv hcl => q_out hC hnt hH1 hq hR.1 hR.2 hce hcv hcl)
  match v, hq with
  | some (.double v), hq => exact kk v Q μ1 H1 locs1 ls hq hH1 hL
  | none, hq => exact hq.elim
  | some .null, hq => exact hq.elim
  | some (.int _), hq => exact hq.elim
  | some (.long _), hq => exact hq.elim
  | some (.float _), hq => exact hq.elim
  | some (.ref _), hq => exact hq.elim
  | some (.retAddr _), hq => exact hq.elim
theorem k_F (hC : Ctx Γ own cc nL ret rm) (hnt : NT Γ) {f : UInt32 → Sem} {mc ms : Nat} (hR : cn + mc ≤ rm.cells ∧ sn + ms ≤ rm.slots) {Q : Post} {μ : Mem} {H : Heap} {locs : List Loc} {ls : Array Slot} {st0 : List Value} {a : Array Value} (hH : Hld Γ H locs μ) (hL : LH (kD Γ) nL ls loc)
    (hr : RunOf Γ H locs cn sn pc ls st0 (stk.map (conc (kD Γ))) mc ms μ (fun r μ1 => match r with
  | .inl (some (.float v)) => f v μ1 Q
  | .inr E => Q (.inr E) μ1
  | _ => False) a) (kk : (∀ v, Cor Γ nL (cn + mc) (sn + ms) (pc + 3) loc (.float v :: stk) (f v))) : WG Γ H locs cn sn Q (F0 (kM Γ) pc ls st0) := by
  refine q_run hC hH hr (fun v μ1 H1 locs1 hq hH1 => ?_) (fun k μ1 H1 locs1 q ce hq hH1 hce hcv hcl => q_out hC hnt hH1 hq hR.1 hR.2 hce hcv hcl)
  match v, hq with
  | some (.float v), hq => exact kk v Q μ1 H1 locs1 ls hq hH1 hL
  | none, hq => exact hq.elim
  | some .null, hq => exact hq.elim
  | some (.int _), hq => exact hq.elim
  | some (.long _), hq => exact hq.elim
  | some (.double _), hq => exact hq.elim
  | some (.ref _), hq => exact hq.elim
  | some (.retAddr _), hq => exact hq.elim
theorem k_V (hC : Ctx Γ own cc nL ret rm) (hnt : NT Γ) {f : Sem} {mc ms : Nat} (hR : cn + mc ≤ rm.cells ∧ sn + ms ≤ rm.slots) {Q : Post} {μ : Mem} {H : Heap} {locs : List Loc} {ls : Array Slot} {st0 : List Value} {a : Array Value} (hH : Hld Γ H locs μ) (hL : LH (kD Γ) nL ls loc)
    (hr : RunOf Γ H locs cn sn pc ls st0 (stk.map (conc (kD Γ))) mc ms μ (fun r μ1 => match r with
  | .inl none => f μ1 Q
  | .inr E => Q (.inr E) μ1
  | _ => False) a) (kk : Cor Γ nL (cn + mc) (sn + ms) (pc + 3) loc stk f) : WG Γ H locs cn sn Q (F0 (kM Γ) pc ls st0) := by
  refine q_run hC hH hr (fun v μ1 H1 locs1 hq hH1 => ?_) (fun k μ1 H1 locs1 q ce hq hH1 hce hcv hcl => q_out hC hnt hH1 hq hR.1 hR.2 hce hcv hcl)
  match v, hq with
  | none, hq => exact kk Q μ1 H1 locs1 ls hq hH1 hL
  | some v, hq => exact hq.elim
theorem k_O (hC : Ctx Γ own cc nL ret rm) (hnt : NT Γ) {f : Nat → Sem} {g : Sem} {mc ms : Nat} (hR : cn + mc ≤ rm.cells ∧ sn + ms ≤ rm.slots) {Q : Post} {μ : Mem} {H : Heap} {locs : List Loc} {ls : Array Slot} {st0 : List Value} {a : Array Value} (hH : Hld Γ H locs μ) (hL : LH (kD Γ) nL ls loc)
    (hr : RunOf Γ H locs cn sn pc ls st0 (stk.map (conc (kD Γ))) mc ms μ (fun r μ1 => match r with
  | .inl (some (.ref v)) => f v μ1 Q
  | .inl (some .null) => g μ1 Q
  | .inr E => Q (.inr E) μ1
  | _ => False) a) (kk : ∀ v, Cor Γ nL (cn + mc) (sn + ms) (pc + 3) loc (.ref v :: stk) (f v)) (kg : Cor Γ nL (cn + mc) (sn + ms) (pc + 3) loc (.null :: stk) g) : WG Γ H locs cn sn Q (F0 (kM Γ) pc ls st0) := by
  refine q_run hC hH hr (fun v μ1 H1 locs1 hq hH1 => ?_) (fun k μ1 H1 locs1 q ce hq hH1 hce hcv hcl => q_out hC hnt hH1 hq hR.1 hR.2 hce hcv hcl)
  match v, hq with
  | some (.ref v), hq => exact kk v Q μ1 H1 locs1 ls hq hH1 hL
  | some .null, hq => exact kg Q μ1 H1 locs1 ls hq hH1 hL
  | none, hq => exact hq.elim
  | some (.int _), hq => exact hq.elim
  | some (.long _), hq => exact hq.elim
  | some (.float _), hq => exact hq.elim
  | some (.double _), hq => exact hq.elim
  | some (.retAddr _), hq => exact hq.elim
theorem q_cVI (hC : Ctx Γ own cc nL ret rm) (hnt : NT Γ) {y : MethodName} {bytes : ByteArray} {maxL index : Nat} {rm' : Room} {S : ST} {as st0 : List Value} {ci q : Nat} {retY : Option FieldType} {f : Int32 → Sem} (hS : Snd y (.code y bytes maxL retY) rm' S) (hci : ci < 12) (hy : y.cls = clR ci) (hn : nameOk y as.length = true) (hR : roomOk rm' rm maxL cn sn = true)
    (h1 : Cond.methodLink own index y ∈ gw) (h2 : Cond.instanceMethod y ∈ gw) (h3 : Cond.selects (clR ci) y y ∈ gw) (h4 : Cond.initialized (clR ci) ∈ gw) (h5 : Cond.code y bytes maxL retY ∈ gw) (hk : (stk.map fun v => v.category).sum ≤ 8) (d : decode cc pc = .ok (.invokevirtual index, 3)) (hst : st0 = as.reverse ++ .ref q :: stk)
    (kk : ∀ v, Cor Γ nL (cn + rm'.cells) (sn + rm'.slots) (pc + 3) loc (.int v :: stk) (f v)) : Cor Γ nL cn sn pc loc st0 (ob ci q (cI S (.ref q :: as) f)) := by
  subst hst
  exact fun Q μ H locs ls hf hH hL => k_I hC hnt (roomOk_use hR).2 hH hL (r_V hC hS hci hy hn hR h1 h2 h3 h4 h5 hk d hf.2.2 ⟨hf.1, hf.2.1⟩ hH hL) kk
theorem q_cSI (hC : Ctx Γ own cc nL ret rm) (hnt : NT Γ) {y : MethodName} {bytes : ByteArray} {maxL index : Nat} {rm' : Room} {S : ST} {as st0 : List Value} {retY : Option FieldType} {f : Int32 → Sem} (hS : Snd y (.code y bytes maxL retY) rm' S) (hn : nameOk y as.length = true) (hR : roomOk rm' rm maxL cn sn = true)
    (h1 : Cond.methodLink own index y ∈ gw) (h2 : Cond.static y ∈ gw) (h4 : Cond.initialized y.cls ∈ gw) (h5 : Cond.code y bytes maxL retY ∈ gw) (hk : (stk.map fun v => v.category).sum ≤ 8) (d : decode cc pc = .ok (.invokestatic index, 3)) (hst : st0 = as.reverse ++ stk)
    (kk : ∀ v, Cor Γ nL (cn + rm'.cells) (sn + rm'.slots) (pc + 3) loc (.int v :: stk) (f v)) : Cor Γ nL cn sn pc loc st0 (cI S as f) := by
  subst hst
  exact fun Q μ H locs ls hf hH hL => k_I hC hnt (roomOk_use hR).2 hH hL (r_S hC hS hn hR h1 h2 h4 h5 hk d hf hH hL) kk
theorem q_cNI (hC : Ctx Γ own cc nL ret rm) (hnt : NT Γ) {y : MethodName} {bytes : ByteArray} {maxL index : Nat} {rm' : Room} {S : ST} {as st0 : List Value} {retY : Option FieldType} {f : Int32 → Sem} {host : String} (hS : Snd y (.code y bytes maxL retY) rm' S) (hn : nameOk y as.length = true) (hR : roomOk rm' rm maxL cn sn = true)
    (h1 : Cond.methodLinkNest own index y host ∈ lw_tbl) (h2 : Cond.static y ∈ gw) (h4 : Cond.initialized y.cls ∈ gw) (h5 : Cond.code y bytes maxL retY ∈ gw) (hk : (stk.map fun v => v.category).sum ≤ 8) (d : decode cc pc = .ok (.invokestatic index, 3)) (hst : st0 = as.reverse ++ stk)
    (kk : ∀ v, Cor Γ nL (cn + rm'.cells) (sn + rm'.slots) (pc + 3) loc (.int v :: stk) (f v)) : Cor Γ nL cn sn pc loc st0 (cI S as f) := by
  subst hst
  exact fun Q μ H locs ls hf hH hL => k_I hC hnt (roomOk_use hR).2 hH hL (r_N hC hS hn hR h1 h2 h4 h5 hk d hf hH hL) kk
theorem q_cVJ (hC : Ctx Γ own cc nL ret rm) (hnt : NT Γ) {y : MethodName} {bytes : ByteArray} {maxL index : Nat} {rm' : Room} {S : ST} {as st0 : List Value} {ci q : Nat} {retY : Option FieldType} {f : Int64 → Sem} (hS : Snd y (.code y bytes maxL retY) rm' S) (hci : ci < 12) (hy : y.cls = clR ci) (hn : nameOk y as.length = true) (hR : roomOk rm' rm maxL cn sn = true)
    (h1 : Cond.methodLink own index y ∈ gw) (h2 : Cond.instanceMethod y ∈ gw) (h3 : Cond.selects (clR ci) y y ∈ gw) (h4 : Cond.initialized (clR ci) ∈ gw) (h5 : Cond.code y bytes maxL retY ∈ gw) (hk : (stk.map fun v => v.category).sum ≤ 8) (d : decode cc pc = .ok (.invokevirtual index, 3)) (hst : st0 = as.reverse ++ .ref q :: stk)
    (kk : ∀ v, Cor Γ nL (cn + rm'.cells) (sn + rm'.slots) (pc + 3) loc (.long v :: stk) (f v)) : Cor Γ nL cn sn pc loc st0 (ob ci q (cJ S (.ref q :: as) f)) := by
  subst hst
  exact fun Q μ H locs ls hf hH hL => k_J hC hnt (roomOk_use hR).2 hH hL (r_V hC hS hci hy hn hR h1 h2 h3 h4 h5 hk d hf.2.2 ⟨hf.1, hf.2.1⟩ hH hL) kk
theorem q_cSJ (hC : Ctx Γ own cc nL ret rm) (hnt : NT Γ) {y : MethodName} {bytes : ByteArray} {maxL index : Nat} {rm' : Room} {S : ST} {as st0 : List Value} {retY : Option FieldType} {f : Int64 → Sem} (hS : Snd y (.code y bytes maxL retY) rm' S) (hn : nameOk y as.length = true) (hR : roomOk rm' rm maxL cn sn = true)
    (h1 : Cond.methodLink own index y ∈ gw) (h2 : Cond.static y ∈ gw) (h4 : Cond.initialized y.cls ∈ gw) (h5 : Cond.code y bytes maxL retY ∈ gw) (hk : (stk.map fun v => v.category).sum ≤ 8) (d : decode cc pc = .ok (.invokestatic index, 3)) (hst : st0 = as.reverse ++ stk)
    (kk : ∀ v, Cor Γ nL (cn + rm'.cells) (sn + rm'.slots) (pc + 3) loc (.long v :: stk) (f v)) : Cor Γ nL cn sn pc loc st0 (cJ S as f) := by
  subst hst
  exact fun Q μ H locs ls hf hH hL => k_J hC hnt (roomOk_use hR).2 hH hL (r_S hC hS hn hR h1 h2 h4 h5 hk d hf hH hL) kk
theorem q_cNJ (hC : Ctx Γ own cc nL ret rm) (hnt : NT Γ) {y : MethodName} {bytes : ByteArray} {maxL index : Nat} {rm' : Room} {S : ST} {as st0 : List Value} {retY : Option FieldType} {f : Int64 → Sem} {host : String} (hS : Snd y (.code y bytes maxL retY) rm' S) (hn : nameOk y as.length = true) (hR : roomOk rm' rm maxL cn sn = true)
    (h1 : Cond.methodLinkNest own index y host ∈ lw_tbl) (h2 : Cond.static y ∈ gw) (h4 : Cond.initialized y.cls ∈ gw) (h5 : Cond.code y bytes maxL retY ∈ gw) (hk : (stk.map fun v => v.category).sum ≤ 8) (d : decode cc pc = .ok (.invokestatic index, 3)) (hst : st0 = as.reverse ++ stk)
    (kk : ∀ v, Cor Γ nL (cn + rm'.cells) (sn + rm'.slots) (pc + 3) loc (.long v :: stk) (f v)) : Cor Γ nL cn sn pc loc st0 (cJ S as f) := by
  subst hst
  exact fun Q μ H locs ls hf hH hL => k_J hC hnt (roomOk_use hR).2 hH hL (r_N hC hS hn hR h1 h2 h4 h5 hk d hf hH hL) kk
theorem q_cVD (hC : Ctx Γ own cc nL ret rm) (hnt : NT Γ) {y : MethodName} {bytes : ByteArray} {maxL index : Nat} {rm' : Room} {S : ST} {as st0 : List Value} {ci q : Nat} {retY : Option FieldType} {f : UInt64 → Sem} (hS : Snd y (.code y bytes maxL retY) rm' S) (hci : ci < 12) (hy : y.cls = clR ci) (hn : nameOk y as.length = true) (hR : roomOk rm' rm maxL cn sn = true)
    (h1 : Cond.methodLink own index y ∈ gw) (h2 : Cond.instanceMethod y ∈ gw) (h3 : Cond.selects (clR ci) y y ∈ gw) (h4 : Cond.initialized (clR ci) ∈ gw) (h5 : Cond.code y bytes maxL retY ∈ gw) (hk : (stk.map fun v => v.category).sum ≤ 8) (d : decode cc pc = .ok (.invokevirtual index, 3)) (hst : st0 = as.reverse ++ .ref q :: stk)
    (kk : ∀ v, Cor Γ nL (cn + rm'.cells) (sn + rm'.slots) (pc + 3) loc (.double v :: stk) (f v)) : Cor Γ nL cn sn pc loc st0 (ob ci q (cD S (.ref q :: as) f)) := by
  subst hst
  exact fun Q μ H locs ls hf hH hL => k_D hC hnt (roomOk_use hR).2 hH hL (r_V hC hS hci hy hn hR h1 h2 h3 h4 h5 hk d hf.2.2 ⟨hf.1, hf.2.1⟩ hH hL) kk
theorem q_cSD (hC : Ctx Γ own cc nL ret rm) (hnt : NT Γ) {y : MethodName} {bytes : ByteArray} {maxL index : Nat} {rm' : Room} {S : ST} {as st0 : List Value} {retY : Option FieldType} {f : UInt64 → Sem} (hS : Snd y (.code y bytes maxL retY) rm' S) (hn : nameOk y as.length = true) (hR : roomOk rm' rm maxL cn sn = true)
    (h1 : Cond.methodLink own index y ∈ gw) (h2 : Cond.static y ∈ gw) (h4 : Cond.initialized y.cls ∈ gw) (h5 : Cond.code y bytes maxL retY ∈ gw) (hk : (stk.map fun v => v.category).sum ≤ 8) (d : decode cc pc = .ok (.invokestatic index, 3)) (hst : st0 = as.reverse ++ stk)
    (kk : ∀ v, Cor Γ nL (cn + rm'.cells) (sn + rm'.slots) (pc + 3) loc (.double v :: stk) (f v)) : Cor Γ nL cn sn pc loc st0 (cD S as f) := by
  subst hst
  exact fun Q μ H locs ls hf hH hL => k_D hC hnt (roomOk_use hR).2 hH hL (r_S hC hS hn hR h1 h2 h4 h5 hk d hf hH hL) kk
theorem q_cND (hC : Ctx Γ own cc nL ret rm) (hnt : NT Γ) {y : MethodName} {bytes : ByteArray} {maxL index : Nat} {rm' : Room} {S : ST} {as st0 : List Value} {retY : Option FieldType} {f : UInt64 → Sem} {host : String} (hS : Snd y (.code y bytes maxL retY) rm' S) (hn : nameOk y as.length = true) (hR : roomOk rm' rm maxL cn sn = true)
    (h1 : Cond.methodLinkNest own index y host ∈ lw_tbl) (h2 : Cond.static y ∈ gw) (h4 : Cond.initialized y.cls ∈ gw) (h5 : Cond.code y bytes maxL retY ∈ gw) (hk : (stk.map fun v => v.category).sum ≤ 8) (d : decode cc pc = .ok (.invokestatic index, 3)) (hst : st0 = as.reverse ++ stk)
    (kk : ∀ v, Cor Γ nL (cn + rm'.cells) (sn + rm'.slots) (pc + 3) loc (.double v :: stk) (f v)) : Cor Γ nL cn sn pc loc st0 (cD S as f) := by
  subst hst
  exact fun Q μ H locs ls hf hH hL => k_D hC hnt (roomOk_use hR).2 hH hL (r_N hC hS hn hR h1 h2 h4 h5 hk d hf hH hL) kk
theorem q_cVF (hC : Ctx Γ own cc nL ret rm) (hnt : NT Γ) {y : MethodName} {bytes : ByteArray} {maxL index : Nat} {rm' : Room} {S : ST} {as st0 : List Value} {ci q : Nat} {retY : Option FieldType} {f : UInt32 → Sem} (hS : Snd y (.code y bytes maxL retY) rm' S) (hci : ci < 12) (hy : y.cls = clR ci) (hn : nameOk y as.length = true) (hR : roomOk rm' rm maxL cn sn = true)
    (h1 : Cond.methodLink own index y ∈ gw) (h2 : Cond.instanceMethod y ∈ gw) (h3 : Cond.selects (clR ci) y y ∈ gw) (h4 : Cond.initialized (clR ci) ∈ gw) (h5 : Cond.code y bytes maxL retY ∈ gw) (hk : (stk.map fun v => v.category).sum ≤ 8) (d : decode cc pc = .ok (.invokevirtual index, 3)) (hst : st0 = as.reverse ++ .ref q :: stk)
    (kk : ∀ v, Cor Γ nL (cn + rm'.cells) (sn + rm'.slots) (pc + 3) loc (.float v :: stk) (f v)) : Cor Γ nL cn sn pc loc st0 (ob ci q (cF S (.ref q :: as) f)) := by
  subst hst
  exact fun Q μ H locs ls hf hH hL => k_F hC hnt (roomOk_use hR).2 hH hL (r_V hC hS hci hy hn hR h1 h2 h3 h4 h5 hk d hf.2.2 ⟨hf.1, hf.2.1⟩ hH hL) kk
theorem q_cSF (hC : Ctx Γ own cc nL ret rm) (hnt : NT Γ) {y : MethodName} {bytes : ByteArray} {maxL index : Nat} {rm' : Room} {S : ST} {as st0 : List Value} {retY : Option FieldType} {f : UInt32 → Sem} (hS : Snd y (.code y bytes maxL retY) rm' S) (hn : nameOk y as.length = true) (hR : roomOk rm' rm maxL cn sn = true)
    (h1 : Cond.methodLink own index y ∈ gw) (h2 : Cond.static y ∈ gw) (h4 : Cond.initialized y.cls ∈ gw) (h5 : Cond.code y bytes maxL retY ∈ gw) (hk : (stk.map fun v => v.category).sum ≤ 8) (d : decode cc pc = .ok (.invokestatic index, 3)) (hst : st0 = as.reverse ++ stk)
    (kk : ∀ v, Cor Γ nL (cn + rm'.cells) (sn + rm'.slots) (pc + 3) loc (.float v :: stk) (f v)) : Cor Γ nL cn sn pc loc st0 (cF S as f) := by
  subst hst
  exact fun Q μ H locs ls hf hH hL => k_F hC hnt (roomOk_use hR).2 hH hL (r_S hC hS hn hR h1 h2 h4 h5 hk d hf hH hL) kk
theorem q_cNF (hC : Ctx Γ own cc nL ret rm) (hnt : NT Γ) {y : MethodName} {bytes : ByteArray} {maxL index : Nat} {rm' : Room} {S : ST} {as st0 : List Value} {retY : Option FieldType} {f : UInt32 → Sem} {host : String} (hS : Snd y (.code y bytes maxL retY) rm' S) (hn : nameOk y as.length = true) (hR : roomOk rm' rm maxL cn sn = true)
    (h1 : Cond.methodLinkNest own index y host ∈ lw_tbl) (h2 : Cond.static y ∈ gw) (h4 : Cond.initialized y.cls ∈ gw) (h5 : Cond.code y bytes maxL retY ∈ gw) (hk : (stk.map fun v => v.category).sum ≤ 8) (d : decode cc pc = .ok (.invokestatic index, 3)) (hst : st0 = as.reverse ++ stk)
    (kk : ∀ v, Cor Γ nL (cn + rm'.cells) (sn + rm'.slots) (pc + 3) loc (.float v :: stk) (f v)) : Cor Γ nL cn sn pc loc st0 (cF S as f) := by
  subst hst
  exact fun Q μ H locs ls hf hH hL => k_F hC hnt (roomOk_use hR).2 hH hL (r_N hC hS hn hR h1 h2 h4 h5 hk d hf hH hL) kk
theorem q_cVV (hC : Ctx Γ own cc nL ret rm) (hnt : NT Γ) {y : MethodName} {bytes : ByteArray} {maxL index : Nat} {rm' : Room} {S : ST} {as st0 : List Value} {ci q : Nat} {retY : Option FieldType} {f : Sem} (hS : Snd y (.code y bytes maxL retY) rm' S) (hci : ci < 12) (hy : y.cls = clR ci) (hn : nameOk y as.length = true) (hR : roomOk rm' rm maxL cn sn = true)
    (h1 : Cond.methodLink own index y ∈ gw) (h2 : Cond.instanceMethod y ∈ gw) (h3 : Cond.selects (clR ci) y y ∈ gw) (h4 : Cond.initialized (clR ci) ∈ gw) (h5 : Cond.code y bytes maxL retY ∈ gw) (hk : (stk.map fun v => v.category).sum ≤ 8) (d : decode cc pc = .ok (.invokevirtual index, 3)) (hst : st0 = as.reverse ++ .ref q :: stk)
    (kk : Cor Γ nL (cn + rm'.cells) (sn + rm'.slots) (pc + 3) loc stk f) : Cor Γ nL cn sn pc loc st0 (ob ci q (cV S (.ref q :: as) f)) := by
  subst hst
  exact fun Q μ H locs ls hf hH hL => k_V hC hnt (roomOk_use hR).2 hH hL (r_V hC hS hci hy hn hR h1 h2 h3 h4 h5 hk d hf.2.2 ⟨hf.1, hf.2.1⟩ hH hL) kk
theorem q_cSV (hC : Ctx Γ own cc nL ret rm) (hnt : NT Γ) {y : MethodName} {bytes : ByteArray} {maxL index : Nat} {rm' : Room} {S : ST} {as st0 : List Value} {retY : Option FieldType} {f : Sem} (hS : Snd y (.code y bytes maxL retY) rm' S) (hn : nameOk y as.length = true) (hR : roomOk rm' rm maxL cn sn = true)
    (h1 : Cond.methodLink own index y ∈ gw) (h2 : Cond.static y ∈ gw) (h4 : Cond.initialized y.cls ∈ gw) (h5 : Cond.code y bytes maxL retY ∈ gw) (hk : (stk.map fun v => v.category).sum ≤ 8) (d : decode cc pc = .ok (.invokestatic index, 3)) (hst : st0 = as.reverse ++ stk)
    (kk : Cor Γ nL (cn + rm'.cells) (sn + rm'.slots) (pc + 3) loc stk f) : Cor Γ nL cn sn pc loc st0 (cV S as f) := by
  subst hst
  exact fun Q μ H locs ls hf hH hL => k_V hC hnt (roomOk_use hR).2 hH hL (r_S hC hS hn hR h1 h2 h4 h5 hk d hf hH hL) kk
theorem q_cNV (hC : Ctx Γ own cc nL ret rm) (hnt : NT Γ) {y : MethodName} {bytes : ByteArray} {maxL index : Nat} {rm' : Room} {S : ST} {as st0 : List Value} {retY : Option FieldType} {f : Sem} {host : String} (hS : Snd y (.code y bytes maxL retY) rm' S) (hn : nameOk y as.length = true) (hR : roomOk rm' rm maxL cn sn = true)
    (h1 : Cond.methodLinkNest own index y host ∈ lw_tbl) (h2 : Cond.static y ∈ gw) (h4 : Cond.initialized y.cls ∈ gw) (h5 : Cond.code y bytes maxL retY ∈ gw) (hk : (stk.map fun v => v.category).sum ≤ 8) (d : decode cc pc = .ok (.invokestatic index, 3)) (hst : st0 = as.reverse ++ stk)
    (kk : Cor Γ nL (cn + rm'.cells) (sn + rm'.slots) (pc + 3) loc stk f) : Cor Γ nL cn sn pc loc st0 (cV S as f) := by
  subst hst
  exact fun Q μ H locs ls hf hH hL => k_V hC hnt (roomOk_use hR).2 hH hL (r_N hC hS hn hR h1 h2 h4 h5 hk d hf hH hL) kk
theorem q_cVO (hC : Ctx Γ own cc nL ret rm) (hnt : NT Γ) {y : MethodName} {bytes : ByteArray} {maxL index : Nat} {rm' : Room} {S : ST} {as st0 : List Value} {ci q : Nat} {retY : Option FieldType} {f : Nat → Sem} {g : Sem} (hS : Snd y (.code y bytes maxL retY) rm' S) (hci : ci < 12) (hy : y.cls = clR ci) (hn : nameOk y as.length = true) (hR : roomOk rm' rm maxL cn sn = true)
    (h1 : Cond.methodLink own index y ∈ gw) (h2 : Cond.instanceMethod y ∈ gw) (h3 : Cond.selects (clR ci) y y ∈ gw) (h4 : Cond.initialized (clR ci) ∈ gw) (h5 : Cond.code y bytes maxL retY ∈ gw) (hk : (stk.map fun v => v.category).sum ≤ 8) (d : decode cc pc = .ok (.invokevirtual index, 3)) (hst : st0 = as.reverse ++ .ref q :: stk)
    (kk : ∀ v, Cor Γ nL (cn + rm'.cells) (sn + rm'.slots) (pc + 3) loc (.ref v :: stk) (f v)) (kg : Cor Γ nL (cn + rm'.cells) (sn + rm'.slots) (pc + 3) loc (.null :: stk) g) : Cor Γ nL cn sn pc loc st0 (ob ci q (cO S (.ref q :: as) f g)) := by
  subst hst
  exact fun Q μ H locs ls hf hH hL => k_O hC hnt (roomOk_use hR).2 hH hL (r_V hC hS hci hy hn hR h1 h2 h3 h4 h5 hk d hf.2.2 ⟨hf.1, hf.2.1⟩ hH hL) kk kg
theorem q_cIV (hC : Ctx Γ own cc nL ret rm) (hnt : NT Γ) {y : MethodName} {bytes : ByteArray} {maxL index : Nat} {rm' : Room} {S : ST} {as st0 : List Value} {q : Nat} {f : Sem} (hS : Snd y (.code y bytes maxL none) rm' S) (hy : y.name = "<init>") (hn : nameOk y as.length = true) (hR : roomOk rm' rm maxL cn sn = true)
    (h1 : Cond.methodLink own index y ∈ gw) (h2 : Cond.instanceMethod y ∈ gw) (h4 : Cond.initialized y.cls ∈ gw) (h5 : Cond.code y bytes maxL none ∈ gw) (hk : (stk.map fun v => v.category).sum ≤ 8) (d : decode cc pc = .ok (.invokespecial index, 3)) (hst : st0 = as.reverse ++ .ref q :: stk)
    (kk : Cor Γ nL (cn + rm'.cells) (sn + rm'.slots) (pc + 3) loc stk f) : Cor Γ nL cn sn pc loc st0 (cV S (.ref q :: as) f) := by
  subst hst
  exact fun Q μ H locs ls hf hH hL => k_V hC hnt (roomOk_use hR).2 hH hL (r_I hC hS hy hn hR h1 h2 h4 h5 hk d hf hH hL) kk
theorem q_cINV (hC : Ctx Γ own cc nL ret rm) (hnt : NT Γ) {y : MethodName} {bytes : ByteArray} {maxL index : Nat} {rm' : Room} {S : ST} {as st0 : List Value} {q : Nat} {f : Sem} {host : String} (hS : Snd y (.code y bytes maxL none) rm' S) (hy : y.name = "<init>") (hn : nameOk y as.length = true) (hR : roomOk rm' rm maxL cn sn = true)
    (h1 : Cond.methodLinkNest own index y host ∈ lw_tbl) (h2 : Cond.instanceMethod y ∈ gw) (h4 : Cond.initialized y.cls ∈ gw) (h5 : Cond.code y bytes maxL none ∈ gw) (hk : (stk.map fun v => v.category).sum ≤ 8) (d : decode cc pc = .ok (.invokespecial index, 3)) (hst : st0 = as.reverse ++ .ref q :: stk)
    (kk : Cor Γ nL (cn + rm'.cells) (sn + rm'.slots) (pc + 3) loc stk f) : Cor Γ nL cn sn pc loc st0 (cV S (.ref q :: as) f) := by
  subst hst
  exact fun Q μ H locs ls hf hH hL => k_V hC hnt (roomOk_use hR).2 hH hL (r_IN hC hS hy hn hR h1 h2 h4 h5 hk d hf hH hL) kk
end Calls12
