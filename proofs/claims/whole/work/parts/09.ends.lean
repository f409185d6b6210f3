section Ends9
variable {Γ : CT} {own : String} {cc : ByteArray} {nL cn sn pc : Nat} {ret : Option FieldType} {rm : Room} {loc : List (Nat × Value)} {stk : List Value} {f : Sem}
/-- behind the body: the world as the caller finds it -/
theorem end_q (hC : Ctx Γ own cc nL ret rm) {Q : Post} {μ : Mem} {H : Heap} {locs : List Loc} (hH : Hld Γ H locs μ) {v : Option Value} (hq : Q (.inl v) μ) : ∀ t : State, t.heap = H → (kS Γ).WarmedH t.vm → QcOf (kG Γ) (kA Γ) Q (kAr Γ) (kS Γ) (.returned (v.map (conc (kD Γ)))) t :=
  fun t ht hW => ⟨⟨v, μ, rfl, hq, by rw [ht]; exact hH.1, va_K.moved hW.alike hC.2.2.2.2.2.2.2.2.1, hH.2.1, by rw [ht]; exact hH.2.2.2⟩, hH.2.2.1.F ht⟩
theorem wid (hC : Ctx Γ own cc nL ret rm) (h1 : cn ≤ rm.cells) (h2 : sn ≤ rm.slots) {Q : Post} {H : Heap} {locs : List Loc} {g : JFrame} (k : WG Γ H locs (kMc Γ) (kMs Γ) Q g) : WG Γ H locs cn sn Q g :=
  W.widen (by rw [← hC.2.2.2.2.2.2.2.2.2.2.2.2.1]; exact h1) (by rw [← hC.2.2.2.2.2.2.2.2.2.2.2.2.2]; exact h2) k
theorem q_iret (hC : Ctx Γ own cc nL (some .int) rm) {x : Int32} (d : decode cc pc = .ok (.ireturn, 1)) (h1 : cn ≤ rm.cells) (h2 : sn ≤ rm.slots) : Cor Γ nL cn sn pc loc [.int x] (rI x) :=
  fun Q μ H locs ls hf hH hL => wid hC h1 h2 (vx_ret (W.iret hC.1 hC.2.1 hC.2.2.2.1 (end_q hC hH hf) hH.2.2.1.2.2 d hC.2.2.2.2.2.2.1))
theorem q_zret (hC : Ctx Γ own cc nL (some .boolean) rm) {x : Int32} (d : decode cc pc = .ok (.ireturn, 1)) (h1 : cn ≤ rm.cells) (h2 : sn ≤ rm.slots) : Cor Γ nL cn sn pc loc [.int x] (rZ x) :=
  fun Q μ H locs ls hf hH hL => wid hC h1 h2 (vx_ret (W.zret hC.1 hC.2.1 hC.2.2.2.1 (by rcases hf.1 with rfl | rfl <;> rfl) (end_q hC hH hf.2) hH.2.2.1.2.2 d hC.2.2.2.2.2.2.1))
theorem q_lret (hC : Ctx Γ own cc nL (some .long) rm) {x : Int64} (d : decode cc pc = .ok (.lreturn, 1)) (h1 : cn ≤ rm.cells) (h2 : sn ≤ rm.slots) : Cor Γ nL cn sn pc loc [.long x] (rJ x) :=
  fun Q μ H locs ls hf hH hL => wid hC h1 h2 (vx_ret (W.lret hC.1 hC.2.1 hC.2.2.2.1 (end_q hC hH hf) hH.2.2.1.2.2 d hC.2.2.2.2.2.2.1))
theorem q_dret (hC : Ctx Γ own cc nL (some .double) rm) {x : UInt64} (d : decode cc pc = .ok (.dreturn, 1)) (h1 : cn ≤ rm.cells) (h2 : sn ≤ rm.slots) : Cor Γ nL cn sn pc loc [.double x] (rD x) :=
  fun Q μ H locs ls hf hH hL => wid hC h1 h2 (vx_ret (W.dret hC.1 hC.2.1 hC.2.2.2.1 (end_q hC hH hf) hH.2.2.1.2.2 d hC.2.2.2.2.2.2.1))
theorem q_fret (hC : Ctx Γ own cc nL (some .float) rm) {x : UInt32} (d : decode cc pc = .ok (.freturn, 1)) (h1 : cn ≤ rm.cells) (h2 : sn ≤ rm.slots) : Cor Γ nL cn sn pc loc [.float x] (rF x) :=
  fun Q μ H locs ls hf hH hL => wid hC h1 h2 (vx_ret (W.fret hC.1 hC.2.1 hC.2.2.2.1 (end_q hC hH hf) hH.2.2.1.2.2 d hC.2.2.2.2.2.2.1))
theorem q_vret (hC : Ctx Γ own cc nL none rm) (d : decode cc pc = .ok (.return_, 1)) (h1 : cn ≤ rm.cells) (h2 : sn ≤ rm.slots) : Cor Γ nL cn sn pc loc [] rV :=
  fun Q μ H locs ls hf hH hL => wid hC h1 h2 (vx_ret (W.vret hC.1 hC.2.1 hC.2.2.2.1 (end_q hC hH (v := none) hf) hH.2.2.1.2.2 d hC.2.2.2.2.2.2.1))
theorem q_aret {ty : String} (hC : Ctx Γ own cc nL (some (.object ty)) rm) {x : Nat} (d : decode cc pc = .ok (.areturn, 1)) (h1 : cn ≤ rm.cells) (h2 : sn ≤ rm.slots) : Cor Γ nL cn sn pc loc [.ref x] (rO (some x)) :=
  fun Q μ H locs ls hf hH hL => wid hC h1 h2 (vx_ret (W.aret hC.1 hC.2.1 hC.2.2.2.1 (Or.inl ⟨_, rfl⟩) (Or.inr ⟨_, rfl⟩) (end_q hC hH (v := some (.ref x)) hf) hH.2.2.1.2.2 d hC.2.2.2.2.2.2.1))
theorem q_aretN {ty : String} (hC : Ctx Γ own cc nL (some (.object ty)) rm) (d : decode cc pc = .ok (.areturn, 1)) (h1 : cn ≤ rm.cells) (h2 : sn ≤ rm.slots) : Cor Γ nL cn sn pc loc [.null] (rO none) :=
  fun Q μ H locs ls hf hH hL => wid hC h1 h2 (vx_ret (W.aret hC.1 hC.2.1 hC.2.2.2.1 (Or.inl ⟨_, rfl⟩) (Or.inl rfl) (end_q hC hH (v := some .null) hf) hH.2.2.1.2.2 d hC.2.2.2.2.2.2.1))
end Ends9
