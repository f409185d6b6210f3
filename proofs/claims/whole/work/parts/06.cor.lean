/-! ===== String constants: their texts; where they are named ===== -/
def scN : Nat := 17
def scLen : List Nat := [4, 2, 5, 4, 4, 4, 6, 5, 4, 4, 5, 58, 2, 6, 6, 6, 6]
def scByt : List (List Int32) := [[109, 97, 114, 107], [97, 116], [115, 105, 103, 104, 116], [102, 111, 114, 101], [98, 97, 99, 107], [104, 101, 97, 116], [108, 101, 110, 103, 116, 104], [101, 114, 114, 111, 114], [98, 101, 110, 100], [119, 97, 114, 109], [108, 105, 109, 105, 116], [108, 101, 110, 103, 116, 104, 32, 98, 101, 110, 100, 32, 119, 97, 114, 109, 32, 108, 105, 109, 105, 116, 32, 101, 114, 114, 111, 114, 32, 109, 97, 114, 107, 32, 115, 105, 103, 104, 116, 32, 97, 116, 32, 102, 111, 114, 101, 32, 98, 97, 99, 107, 32, 104, 101, 97, 116, 32], [45, 32], [115, 105, 103, 104, 116, 32], [32, 102, 111, 114, 101, 32], [32, 98, 97, 99, 107, 32], [32, 104, 101, 97, 116, 32]]
def scTab : List (String × Nat × String × Nat) := [("SpiritWall$Tokens", 31, "mark", 0), ("SpiritWall$Tokens", 37, "at", 1), ("SpiritWall$Tokens", 39, "sight", 2), ("SpiritWall$Tokens", 41, "fore", 3), ("SpiritWall$Tokens", 43, "back", 4), ("SpiritWall$Tokens", 45, "heat", 5), ("SpiritWall$Tokens", 47, "length", 6), ("SpiritWall$Tokens", 49, "error", 7), ("SpiritWall$Tokens", 51, "bend", 8), ("SpiritWall$Tokens", 53, "warm", 9), ("SpiritWall$Tokens", 55, "limit", 10), ("SpiritWallModel", 425, "length bend warm limit error mark sight at fore back heat ", 11), ("SpiritWall", 413, "- ", 12), ("SpiritWall", 418, "sight ", 13), ("SpiritWall", 420, " fore ", 14), ("SpiritWall", 422, " back ", 15), ("SpiritWall", 424, " heat ", 16), ("SpiritWallModel", 511, "- ", 12), ("SpiritWallModel", 517, "sight ", 13), ("SpiritWallModel", 519, " fore ", 14), ("SpiritWallModel", 521, " back ", 15), ("SpiritWallModel", 523, " heat ", 16), ("SpiritWall", 439, "there is no such mark", 20), ("SpiritWall", 209, "no such number of a mark", 21), ("SpiritWall", 442, "there is no such sight", 22), ("SpiritWall", 254, "no such number of a sight", 23), ("SpiritWall", 452, "out of range", 24), ("SpiritWall", 444, "there is no such loop", 25), ("SpiritWall", 309, "no such number of a loop", 26), ("SpiritWall", 359, "a sight goes to another mark", 27), ("SpiritWall", 363, "there are 40 sights", 28), ("SpiritWall", 385, "this mark is no bench", 29), ("SpiritWall", 396, "nothing can be undone", 30), ("SpiritWall", 429, "no state is saved", 31)]
/-- the String constants' cells -/
def scS (ad : Nat → Nat) (A : Nat → Prop) (U : State) (H : Heap) : Prop := ∀ i : Nat, i < scN → va_O "java/lang/String" (ad (2000 + i)) A U H ∧ va_OF "java/lang/String" "coder" "B" (.int 0) (ad (2000 + i)) A U H ∧ va_OF "java/lang/String" "value" "[B" (.ref (ad (2100 + i))) (ad (2000 + i)) A U H ∧ va_T .byte (ad (2100 + i)) (scLen.getD i 0) (fun j => .int ((scByt.getD i []).getD j 0)) A U H
theorem scS.moved {ad : Nat → Nat} {A : Nat → Prop} {u U : State} {H : Heap} (hvm : u.vm.Alike U.vm) (h : scS ad A u H) : scS ad A U H := fun i hi => ⟨va_O.moved hvm (h i hi).1, va_OF.moved hvm (h i hi).2.1, va_OF.moved hvm (h i hi).2.2.1, va_T.moved hvm (h i hi).2.2.2⟩
theorem scS.kept {ad : Nat → Nat} {A : Nat → Prop} {U : State} {H H1 : Heap} (h : scS ad A U H) (hq : ∀ a : Nat, a < H.size → ¬ A a → H1[a]? = H[a]?) : scS ad A U H1 := fun i hi => ⟨(h i hi).1.kept hq, (h i hi).2.1.kept hq, (h i hi).2.2.1.kept hq, (h i hi).2.2.2.kept hq⟩
theorem scS.narrow {ad : Nat → Nat} {A B : Nat → Prop} {U : State} {H : Heap} (h : scS ad A U H) (hAB : ∀ q, B q → A q) : scS ad B U H := fun i hi => ⟨(h i hi).1.narrow hAB, (h i hi).2.1.narrow hAB, (h i hi).2.2.1.narrow hAB, (h i hi).2.2.2.narrow hAB⟩
/-! ===== what holds of statics and constants: it stays ===== -/
def stN (i : Nat) : String := ["LEAST_SETTING", "GREATEST_SETTING", "FIRST_SETTING"].getD i ""
/-- a static of the library, null or at an address of its own -/
def sfZ (ad : Nat → Nat) (A : Nat → Prop) (U : State) (H : Heap) : Prop := va_Z "jdk/internal/util/Preconditions" "SIOOBE_FORMATTER" "Ljava/util/function/BiFunction;" .null A U H ∨ va_Z "jdk/internal/util/Preconditions" "SIOOBE_FORMATTER" "Ljava/util/function/BiFunction;" (.ref (ad 1999)) A U H
theorem sfZ.moved {ad : Nat → Nat} {A : Nat → Prop} {u U : State} {H : Heap} (hvm : u.vm.Alike U.vm) (h : sfZ ad A u H) : sfZ ad A U H := h.imp (va_Z.moved hvm) (va_Z.moved hvm)
theorem sfZ.kept {ad : Nat → Nat} {A : Nat → Prop} {U : State} {H H1 : Heap} (h : sfZ ad A U H) (hq : ∀ a : Nat, a < H.size → ¬ A a → H1[a]? = H[a]?) : sfZ ad A U H1 := h.imp (fun h => h.kept hq) (fun h => h.kept hq)
theorem sfZ.narrow {ad : Nat → Nat} {A B : Nat → Prop} {U : State} {H : Heap} (h : sfZ ad A U H) (hAB : ∀ q, B q → A q) : sfZ ad B U H := h.imp (fun h => h.narrow hAB) (fun h => h.narrow hAB)
def Sta (ad : Nat → Nat) (A : Nat → Prop) (U : State) (H : Heap) : Prop :=
  (∀ i : Nat, i < 3 → va_Z "SpiritWall" (stN i) "[I" (.ref (ad (1000 + i))) A U H ∧ va_T .int (ad (1000 + i)) 4 (fun j => .int (sI (1000 + i) j)) A U H) ∧
  vx_Zq Bundle.tN "UNASSIGNED_STACK" Bundle.steD A U H ∧ vx_Zq Bundle.tN "SUPPRESSED_SENTINEL" Bundle.listD A U H ∧
  scS ad A U H ∧ (∀ r ∈ scTab, vk_R r.1 r.2.1 r.2.2.1 (ad (2000 + r.2.2.2)) U) ∧
  va_Z "java/lang/String" "COMPACT_STRINGS" "Z" (.int 1) A U H ∧ sfZ ad A U H ∧ NW U ∧ va_AO "SpiritWall$State" U ∧ (∀ k : Nat, k < NN → ad (k + 1) = ad k + 1)
theorem Sta.kept {ad : Nat → Nat} {A : Nat → Prop} {U : State} {H H1 : Heap} (h : Sta ad A U H) (hq : ∀ a : Nat, a < H.size → ¬ A a → H1[a]? = H[a]?) : Sta ad A U H1 :=
  ⟨fun i hi => ⟨(h.1 i hi).1.kept hq, (h.1 i hi).2.kept hq⟩, h.2.1.kept hq, h.2.2.1.kept hq, h.2.2.2.1.kept hq, h.2.2.2.2.1, h.2.2.2.2.2.1.kept hq, h.2.2.2.2.2.2.1.kept hq, h.2.2.2.2.2.2.2⟩
theorem Sta.narrow {ad : Nat → Nat} {A B : Nat → Prop} {U : State} {H : Heap} (h : Sta ad A U H) (hAB : ∀ q, B q → A q) : Sta ad B U H :=
  ⟨fun i hi => ⟨(h.1 i hi).1.narrow hAB, (h.1 i hi).2.narrow hAB⟩, h.2.1.narrow hAB, h.2.2.1.narrow hAB, h.2.2.2.1.narrow hAB, h.2.2.2.2.1, h.2.2.2.2.2.1.narrow hAB, h.2.2.2.2.2.2.1.narrow hAB, h.2.2.2.2.2.2.2⟩
theorem Sta.warm {ad : Nat → Nat} {A : Nat → Prop} {u U : State} {H : Heap} (hW : u.WarmedH U.vm) (h : Sta ad A u H) : Sta ad A U H :=
  ⟨fun i hi => ⟨va_Z.moved hW.alike (h.1 i hi).1, va_T.moved hW.alike (h.1 i hi).2⟩, vx_Zq.moved hW.alike h.2.1, vx_Zq.moved hW.alike h.2.2.1, scS.moved hW.alike h.2.2.2.1, fun r hr => (h.2.2.2.2.1 r hr).warm hW, va_Z.moved hW.alike h.2.2.2.2.2.1, sfZ.moved hW.alike h.2.2.2.2.2.2.1, h.2.2.2.2.2.2.2.1.warm hW, va_AO.moved hW.alike h.2.2.2.2.2.2.2.2.1, h.2.2.2.2.2.2.2.2.2⟩
theorem Sta.same {ad : Nat → Nat} {A : Nat → Prop} {u U : State} {H : Heap} (hv : u.vm = U.vm) (h : Sta ad A u H) : Sta ad A U H := by
  have ha : u.vm.Alike U.vm := by rw [hv]; exact Vm.Alike.refl _
  exact ⟨fun i hi => ⟨va_Z.moved ha (h.1 i hi).1, va_T.moved ha (h.1 i hi).2⟩, vx_Zq.moved ha h.2.1, vx_Zq.moved ha h.2.2.1, scS.moved ha h.2.2.2.1, fun r hr => vk_R.same hv.symm (h.2.2.2.2.1 r hr), va_Z.moved ha h.2.2.2.2.2.1, sfZ.moved ha h.2.2.2.2.2.2.1, h.2.2.2.2.2.2.2.1.same hv, va_AO.moved ha h.2.2.2.2.2.2.2.2.1, h.2.2.2.2.2.2.2.2.2⟩
/-! ===== semantics: predicate transformers, built of these pieces ===== -/
def gI (ci k q : Nat) (f : Int32 → Sem) : Sem := fun μ Q => kd q = (0, ci) ∧ q < μ.1 ∧ f (mI μ q k) μ Q
def gR (ci k q : Nat) (f : Nat → Sem) : Sem := fun μ Q => kd q = (0, ci) ∧ q < μ.1 ∧ ∃ r, mR μ q k = some r ∧ f r μ Q
def pI (ci k q : Nat) (v : Int32) (f : Sem) : Sem := fun μ Q => kd q = (0, ci) ∧ q < μ.1 ∧ f (wI μ q k v) Q
def pZ (ci k q : Nat) (v : Int32) (f : Sem) : Sem := fun μ Q => kd q = (0, ci) ∧ q < μ.1 ∧ (v = 0 ∨ v = 1) ∧ f (wI μ q k v) Q
def pR (ci k q : Nat) (v : Option Nat) (f : Sem) : Sem := fun μ Q => kd q = (0, ci) ∧ q < μ.1 ∧ f (wR μ q k v) Q
/-- an int array's cell, of the world or a static one -/
def aI (q : Nat) (i : Int32) (f : Int32 → Sem) : Sem := fun μ Q => vp_in i (kd q).2 ∧ (((kd q).1 = 1 ∧ q < μ.1 ∧ f (mI μ q i.toNatClampNeg) μ Q) ∨ ((kd q).1 = 6 ∧ f (sI q i.toNatClampNeg) μ Q))
def sA (q : Nat) (i v : Int32) (f : Sem) : Sem := fun μ Q => (kd q).1 = 1 ∧ q < μ.1 ∧ vp_in i (kd q).2 ∧ f (wI μ q i.toNatClampNeg v) Q
/-- byte and boolean arrays -/
def aB (q : Nat) (i : Int32) (f : Int32 → Sem) : Sem := fun μ Q => ((kd q).1 = 2 ∨ (kd q).1 = 3) ∧ q < μ.1 ∧ vp_in i (kd q).2 ∧ f (mI μ q i.toNatClampNeg) μ Q
def sB (q : Nat) (i v : Int32) (f : Sem) : Sem := fun μ Q => q < μ.1 ∧ vp_in i (kd q).2 ∧ (((kd q).1 = 2 ∧ f (wI μ q i.toNatClampNeg (vp_nar .byte v)) Q) ∨ ((kd q).1 = 3 ∧ f (wI μ q i.toNatClampNeg (vp_nar .boolean v)) Q))
def aJ (q : Nat) (i : Int32) (f : Int64 → Sem) : Sem := fun μ Q => (kd q).1 = 4 ∧ q < μ.1 ∧ vp_in i (kd q).2 ∧ f (mJ μ q i.toNatClampNeg) μ Q
def sJ (q : Nat) (i : Int32) (v : Int64) (f : Sem) : Sem := fun μ Q => (kd q).1 = 4 ∧ q < μ.1 ∧ vp_in i (kd q).2 ∧ f (wJ μ q i.toNatClampNeg v) Q
def aR (q : Nat) (i : Int32) (f : Nat → Sem) : Sem := fun μ Q => (kd q).1 = 5 ∧ q < μ.1 ∧ vp_in i (kd q).2 ∧ ∃ r, mR μ q i.toNatClampNeg = some r ∧ f r μ Q
def sR (q : Nat) (i : Int32) (v : Nat) (f : Sem) : Sem := fun μ Q => (kd q).1 = 5 ∧ q < μ.1 ∧ vp_in i (kd q).2 ∧ kd v = (0, 6) ∧ v < μ.1 ∧ f (wR μ q i.toNatClampNeg (some v)) Q
def aL (q : Nat) (f : Int32 → Sem) : Sem := fun μ Q => (((kd q).1 = 1 ∨ (kd q).1 = 5) ∧ q < μ.1 ∨ (kd q).1 = 6) ∧ f (Int32.ofNat (kd q).2) μ Q
def nz (y : Int32) (f : Sem) : Sem := fun μ Q => ¬ y = 0 ∧ f μ Q
def nzl (y : Int64) (f : Sem) : Sem := fun μ Q => ¬ y = 0 ∧ f μ Q
def nan32 (y : UInt32) (f : Sem) : Sem := fun μ Q => vf_n32 y ∧ f μ Q
def nan64 (y : UInt64) (f : Sem) : Sem := fun μ Q => vf_n64 y ∧ f μ Q
def lI (v : Int32) (f : Int32 → Sem) : Sem := f v
def lJ (v : Int64) (f : Int64 → Sem) : Sem := f v
def br (c : Prop) (a b : Sem) : Sem := fun μ Q => (c → a μ Q) ∧ (¬ c → b μ Q)
/-- a switch: the place of the branch that is taken -/
def sw (x lo : Int32) (n : Nat) (f : Nat → Sem) : Sem := fun μ Q => f (if lo.toInt ≤ x.toInt ∧ x.toInt < lo.toInt + n then (x.toInt - lo.toInt).toNat else n) μ Q
def rI (v : Int32) : Sem := fun μ Q => Q (.inl (some (.int v))) μ
def rZ (v : Int32) : Sem := fun μ Q => (v = 0 ∨ v = 1) ∧ Q (.inl (some (.int v))) μ
def rJ (v : Int64) : Sem := fun μ Q => Q (.inl (some (.long v))) μ
def rD (v : UInt64) : Sem := fun μ Q => Q (.inl (some (.double v))) μ
def rF (v : UInt32) : Sem := fun μ Q => Q (.inl (some (.float v))) μ
def rV : Sem := fun μ Q => Q (.inl none) μ
def rO (v : Option Nat) : Sem := fun μ Q => Q (.inl (some (va_rf v))) μ
def thr (E : Nat) : Sem := fun μ Q => NN ≤ μ.1 ∧ Q (.inr E) μ
abbrev ST : Type := List Value → Sem
def cI (S : ST) (as : List Value) (f : Int32 → Sem) : Sem := fun μ Q => S as μ (fun r μ1 => match r with
  | .inl (some (.int v)) => f v μ1 Q
  | .inr E => Q (.inr E) μ1
  | _ => False)
def cJ (S : ST) (as : List Value) (f : Int64 → Sem) : Sem := fun μ Q => S as μ (fun r μ1 => match r with
  | .inl (some (.long v)) => f v μ1 Q
  | .inr E => Q (.inr E) μ1
  | _ => False)
def cD (S : ST) (as : List Value) (f : UInt64 → Sem) : Sem := fun μ Q => S as μ (fun r μ1 => match r with
  | .inl (some (.double v)) => f v μ1 Q
  | .inr E => Q (.inr E) μ1
  | _ => False)
def cF (S : ST) (as : List Value) (f : UInt32 → Sem) : Sem := fun μ Q => S as μ (fun r μ1 => match r with
  | .inl (some (.float v)) => f v μ1 Q
  | .inr E => Q (.inr E) μ1
  | _ => False)
def cV (S : ST) (as : List Value) (f : Sem) : Sem := fun μ Q => S as μ (fun r μ1 => match r with
  | .inl none => f μ1 Q
  | .inr E => Q (.inr E) μ1
  | _ => False)
def cO (S : ST) (as : List Value) (f : Nat → Sem) (g : Sem) : Sem := fun μ Q => S as μ (fun r μ1 => match r with
  | .inl (some (.ref v)) => f v μ1 Q
  | .inl (some .null) => g μ1 Q
  | .inr E => Q (.inr E) μ1
  | _ => False)
def nO (ci : Nat) (f : Nat → Sem) : Sem := fun μ Q => kd μ.1 = (0, ci) ∧ μ.1 < NN ∧ f μ.1 (nwM μ) Q
def nA (t : Nat) (n : Int32) (f : Nat → Sem) : Sem := fun μ Q => (∃ k : Nat, k < 100000 ∧ n = Int32.ofNat k ∧ kd μ.1 = (t, k)) ∧ μ.1 < NN ∧ f μ.1 (nwM μ) Q
/-- the labels of a method: the least thing that its pieces say of each other -/
abbrev JT : Type := Nat → List Value → Sem
def fx (b : JT → JT) : JT := fun L a μ Q => ∀ X : JT, (∀ J : JT, (∀ L a μ Q, J L a μ Q → X L a μ Q) → ∀ L a μ Q, b J L a μ Q → X L a μ Q) → X L a μ Q
theorem fx_in {b : JT → JT} {L : Nat} {a : List Value} {μ : Mem} {Q : Post} (h : b (fx b) L a μ Q) : fx b L a μ Q :=
  fun X hX => hX (fx b) (fun _ _ _ _ hJ => hJ X hX) _ _ _ _ h
