section Ends9
variable {Γ : CT} {own : String} {cc : ByteArray} {nL cn sn pc : Nat} {ret : Option FieldType} {rm : Room} {loc : List (Nat × Value)} {stk : List Value} {f : Sem}
/-! a method's contract -/
def SPc (G : GT) (sz : Nat) (av : List Value) (μ : Mem) : Array Value → State → Prop := va_Pc (av.map (conc G.2.2)) (fun U => U.heap.size = sz ∧ WldP G (va_A (GW G μ) sz) μ U U.heap ∧ Sta G.2.2 (va_A (GW G μ) sz) U U.heap)
def Snd (y : MethodName) (w : Cond) (rm : Room) (S : ST) : Prop := ∀ (l : Launch), l.stackTraces = false → ∀ (G : GT) (sz : Nat) (av : List Value) (μ : Mem) (Q : Post), S av μ Q →
  vx_Met l y (w :: gw) rm (SPc G sz av μ) (QcOf G (va_A (GW G μ) sz) Q) (XcOf G (va_A (GW G μ) sz) Q) rm.cells rm.slots (va_A (GW G μ) sz)
theorem SPc_blind {G : GT} {sz : Nat} {av : List Value} {μ : Mem} : FrameBlind (SPc G sz av μ) := by
  intro a U g mk q
  obtain ⟨q0, q1, ⟨qP, qK, qD, qS⟩, qT⟩ := q
  exact ⟨q0, q1, ⟨qP, va_K.moved (u := U) (U := U.calling g mk a) (Vm.Alike.refl U.vm) qK, qD, qS⟩, Sta.same (u := U) (U := U.calling g mk a) rfl qT⟩
/-- the callee's start, at the heap that the caller holds -/
theorem pre_U (hC : Ctx Γ own cc nL ret rm) {μ : Mem} {H : Heap} {locs : List Loc} (hH : Hld Γ H locs μ) {av : List Value} {vs : Array Value} (hv : vs = (av.map (conc (kD Γ))).toArray) : ∀ U : State, U.heap = H → (kS Γ).WarmedH U.vm → SPc (kG Γ) H.size av μ vs U := by
  intro U hU hW
  have hsub : ∀ q, va_A (GW (kG Γ) μ) H.size q → kA Γ q := fun q h => by
    rcases h with ⟨k, e, h⟩ | h
    · exact hH.2.1.2 k _ h
    · exact hC.2.2.2.2.2.2.2.2.2.1 q (Nat.le_trans hH.2.2.1.1 h)
  refine ⟨hv, by rw [hU], ⟨by rw [hU]; exact hH.1, va_K.moved hW.alike hC.2.2.2.2.2.2.2.2.1, hH.2.1.self, by rw [hU]; exact hH.2.2.2⟩, ?_⟩
  rw [hU]
  exact ((hC.2.2.2.2.2.2.2.2.2.2.1.kept (H1 := H) (fun a h1 h2 => hH.2.2.1.2.1 a h1 h2)).narrow hsub).warm hW
/-- behind a call -/
theorem q_run (hC : Ctx Γ own cc nL ret rm) {μ : Mem} {H : Heap} {locs : List Loc} {ls : Array Slot} {mc ms : Nat} {Q Q1 : Post} {st0 rest : List Value} {a : Array Value} (hH : Hld Γ H locs μ)
    (hr : vx_Run (kP Γ) (kL Γ) (kE Γ) (kR Γ) (kS Γ) (kM Γ) (kAr Γ) (kB Γ) (kMe Γ) (kC Γ) H locs cn sn mc ms (F0 (kM Γ) pc ls st0) rest (QcOf (kG Γ) (va_A (GW (kG Γ) μ) H.size) Q1 a) (XcOf (kG Γ) (va_A (GW (kG Γ) μ) H.size) Q1) (va_A (GW (kG Γ) μ) H.size))
    (kk : ∀ (v : Option Value) (μ1 : Mem) (H1 : Heap) (locs1 : List Loc), Q1 (.inl v) μ1 → Hld Γ H1 locs1 μ1 → WG Γ H1 locs1 (cn + mc) (sn + ms) Q (F0 (kM Γ) (pc + 3) ls ((v.map (conc (kD Γ))).toList ++ rest)))
    (kx : ∀ (k : Nat) (μ1 : Mem) (H1 : Heap) (locs1 : List Loc) (q : Nat) (ce : Cell), Q1 (.inr k) μ1 → Hld Γ H1 locs1 μ1 → H1[q]? = some ce → ce.vm = .none → (kS Γ).vm.findClass (exN k) = some ce.cls →
      vx_W (kP Γ) (kL Γ) (kE Γ) (kR Γ) (kS Γ) (kM Γ) (kAr Γ) (kB Γ) (kMe Γ) (kC Γ) H1 locs1 (cn + mc) (sn + ms) (vx_MQ (kB Γ) (QcOf (kG Γ) (kA Γ) Q) (XcOf (kG Γ) (kA Γ) Q) (kAr Γ) (kS Γ) (kMc Γ) (kMs Γ) (kA Γ)) (F0 (kM Γ) pc ls rest) q) :
    WG Γ H locs cn sn Q (F0 (kM Γ) pc ls st0) := by
  have hsub : ∀ q, va_A (GW (kG Γ) μ) H.size q → kA Γ q := fun q h => by
    rcases h with ⟨k, e, h⟩ | h
    · exact hH.2.1.2 k _ h
    · exact hC.2.2.2.2.2.2.2.2.2.1 q (Nat.le_trans hH.2.2.1.1 h)
  intro T hT X
  rcases hr T hT X with ⟨v, st₀, t, T', L, h0, X', hL, e1, e2, ⟨⟨v', μ1, hv, hq, hP, hK, hD, hz⟩, hF⟩, st⟩ | ⟨q, st₀, t, T', L, E, ce, h0, X', hL, e1, e2, ⟨⟨k, μ1, rfl, hq, hP, hK, hD, hz⟩, hF⟩, hce, hcv, hcl, st⟩
  · cases hv
    obtain ⟨k1, k2, k3⟩ := vx_keep h0 e1 hH.2.2.1 (fun q _ h => hsub q h) hsub hL hF
    rw [← e1] at hP hz
    obtain ⟨t2, a1, b1⟩ := kk v' μ1 T'.heap (locs ++ L) hq ⟨hP, hD.weaken (fun _ _ _ h => hsub _ h), k3, hz⟩ T' rfl X'
    exact ⟨t2, st t2 a1, b1⟩
  · obtain ⟨k1, k2, k3⟩ := vx_keep h0 e1 hH.2.2.1 (fun q _ h => hsub q h) hsub hL hF
    rw [← e1] at hP hz
    obtain ⟨t2, a1, b1⟩ := kx k μ1 T'.heap (locs ++ L) q ce hq ⟨hP, hD.weaken (fun _ _ _ h => hsub _ h), k3, hz⟩ (by rw [e1]; exact hce) hcv hcl T' rfl X'
    exact ⟨t2, st.trans a1, b1⟩
/-- what the callee throws goes on to the caller -/
theorem q_out (hC : Ctx Γ own cc nL ret rm) (hnt : ∀ x ∈ (kC Γ).exceptionTable.toList, False) {μ : Mem} {H : Heap} {locs : List Loc} {ls : Array Slot} {Q : Post} {rest : List Value} {k q : Nat} {ce : Cell} (hH : Hld Γ H locs μ) (hq : Q (.inr k) μ) (h1 : cn ≤ rm.cells) (h2 : sn ≤ rm.slots) (hce : H[q]? = some ce) (hcv : ce.vm = .none) (hcl : (kS Γ).vm.findClass (exN k) = some ce.cls) :
    vx_W (kP Γ) (kL Γ) (kE Γ) (kR Γ) (kS Γ) (kM Γ) (kAr Γ) (kB Γ) (kMe Γ) (kC Γ) H locs cn sn (vx_MQ (kB Γ) (QcOf (kG Γ) (kA Γ) Q) (XcOf (kG Γ) (kA Γ) Q) (kAr Γ) (kS Γ) (kMc Γ) (kMs Γ) (kA Γ)) (F0 (kM Γ) pc ls rest) q :=
  vx_out (fun x hx => (hnt x hx).elim) hC.2.2.2.2.2.2.1 hce hcv hcl (fun t ht hvm => ⟨⟨k, μ, rfl, hq, by rw [ht]; exact hH.1, va_K.moved hvm hC.2.2.2.2.2.2.2.2.1, hH.2.1, by rw [ht]; exact hH.2.2.2⟩, hH.2.2.1.F ht⟩) hH.2.2.1.2.2 (by rw [← hC.2.2.2.2.2.2.2.2.2.2.2.2.1]; exact h1) (by rw [← hC.2.2.2.2.2.2.2.2.2.2.2.2.2]; exact h2)
end Ends9
