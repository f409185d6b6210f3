/-! ===== quotients of small numbers are numbers ===== -/
def okD (D : FP.Core.Datum) : Prop := (∃ s, D = .inf s) ∨ ∃ s c q, D = .fin s c q ∧ c < 9007199254740992 ∧ q ≤ 971
theorem okD_rr (s : Bool) (A B : Nat) (x : Int) : okD (FP.Core.roundRatio FP.Core.b64 s A B x) := by
  have p : (2 : Nat) ^ FP.Core.b64.p = 9007199254740992 := by decide
  have q : FP.Core.b64.qmax = 971 := by decide
  have t : FP.Core.b64.tails = 4503599627370496 := by decide
  have bd : ∀ c y, c < 9007199254740992 → okD (FP.Core.bound FP.Core.b64 s c y) := fun c y hc => by
    unfold FP.Core.bound
    split
    · rename_i h; exact Or.inr ⟨s, c, y, rfl, hc, by rw [q] at h; exact h⟩
    · exact Or.inl ⟨s, rfl⟩
  unfold FP.Core.roundRatio
  split
  · exact Or.inr ⟨s, 0, _, rfl, by omega, by decide⟩
  · unfold FP.Core.roundAt FP.Core.settle
    split
    · rename_i h; rw [p] at h; exact bd _ _ h
    · exact bd _ _ (by rw [t]; omega)
theorem okD_enc {D : FP.Core.Datum} (h : okD D) : FP.Core.encode FP.Core.b64 D % 9223372036854775808 ≤ 9218868437227405312 ∧ FP.Core.encode FP.Core.b64 D < 18446744073709551616 := by
  have t : FP.Core.b64.tails = 4503599627370496 := by decide
  have x : FP.Core.b64.exps = 2048 := by decide
  have m : FP.Core.b64.qmin = -1074 := by decide
  have bs : ∀ s : Bool, s.toNat = 0 ∨ s.toNat = 1 := fun s => by cases s <;> simp
  rcases h with ⟨s, rfl⟩ | ⟨s, c, q, rfl, hc, hq⟩
  · show FP.Core.assemble FP.Core.b64 s (FP.Core.b64.exps - 1) 0 % _ ≤ _ ∧ FP.Core.assemble FP.Core.b64 s (FP.Core.b64.exps - 1) 0 < _
    unfold FP.Core.assemble
    rw [t, x]
    rcases bs s with h | h <;> rw [h] <;> omega
  · show (if c < FP.Core.b64.tails then FP.Core.assemble FP.Core.b64 s 0 c else FP.Core.assemble FP.Core.b64 s ((q - FP.Core.b64.qmin).toNat + 1) (c - FP.Core.b64.tails)) % _ ≤ _ ∧ (if c < FP.Core.b64.tails then FP.Core.assemble FP.Core.b64 s 0 c else FP.Core.assemble FP.Core.b64 s ((q - FP.Core.b64.qmin).toNat + 1) (c - FP.Core.b64.tails)) < _
    unfold FP.Core.assemble
    rw [t, x, m]
    split
    · rcases bs s with h | h <;> rw [h] <;> omega
    · rcases bs s with h | h <;> rw [h] <;> omega
theorem dec_ne {n : Nat} (h : n % 9223372036854775808 ≤ 9218868437227405312) : FP.Core.decode FP.Core.b64 n ≠ .nan := by
  have t : FP.Core.b64.tails = 4503599627370496 := by decide
  have x : FP.Core.b64.exps = 2048 := by decide
  unfold FP.Core.decode FP.Core.fieldE FP.Core.fieldT
  rw [t, x]
  split
  · rw [if_pos (by omega)]
    intro q; cases q
  · split
    · intro q; cases q
    · intro q; cases q
theorem i2d_nn (v : Int32) : FP.Core.decode FP.Core.b64 (FP.i2d v).toNat ≠ .nan := by
  have h := okD_enc (okD_rr (decide (v.toInt < 0)) v.toInt.natAbs 1 0)
  have e : (FP.i2d v).toNat = FP.Core.encode FP.Core.b64 (FP.Core.roundRatio FP.Core.b64 (decide (v.toInt < 0)) v.toInt.natAbs 1 0) := by
    show (UInt64.ofNat _).toNat = _
    rw [UInt64.toNat_ofNat']
    exact Nat.mod_eq_of_lt h.2
  rw [e]
  exact dec_ne h.1
def finnz (D : FP.Core.Datum) : Bool := match D with
  | .fin _ d _ => decide (d ≠ 0)
  | _ => false
theorem small_fin : ∀ n : Nat, n < 40 → finnz (FP.Core.decode FP.Core.b64 (FP.i2d (i32 ((n : Int) + 1))).toNat) = true := by decide +kernel
theorem nan_ddiv (v : Int32) {n : Int} (h1 : 1 ≤ n) (h2 : n ≤ 40) : vf_n64 (FP.ddiv (FP.i2d v) (FP.i2d (i32 n))) := by
  have y := small_fin (n - 1).toNat (by omega)
  rw [show (((n - 1).toNat : Nat) : Int) + 1 = n by omega] at y
  have x := i2d_nn v
  have ok : okD (FP.Core.quotient FP.Core.b64 (FP.Core.decode FP.Core.b64 (FP.i2d v).toNat) (FP.Core.decode FP.Core.b64 (FP.i2d (i32 n)).toNat)) := by
    generalize FP.Core.decode FP.Core.b64 (FP.i2d v).toNat = X at *
    generalize FP.Core.decode FP.Core.b64 (FP.i2d (i32 n)).toNat = Y at *
    cases Y with
    | nan => exact absurd (show false = true from y) (by decide)
    | inf s => exact absurd (show false = true from y) (by decide)
    | fin t d r =>
      have hd : d ≠ 0 := of_decide_eq_true y
      cases X with
      | nan => exact absurd rfl x
      | inf s => exact Or.inl ⟨_, rfl⟩
      | fin s c q =>
        show okD (if d = 0 then (if c = 0 then .nan else .inf (s != t)) else FP.Core.roundRatio FP.Core.b64 (s != t) c d (q - r))
        rw [if_neg hd]
        exact okD_rr _ _ _ _
  have h := okD_enc ok
  unfold vf_n64
  rw [UInt64.le_iff_toNat_le, UInt64.toNat_and]
  have e : (FP.ddiv (FP.i2d v) (FP.i2d (i32 n))).toNat = FP.Core.encode FP.Core.b64 (FP.Core.quotient FP.Core.b64 (FP.Core.decode FP.Core.b64 (FP.i2d v).toNat) (FP.Core.decode FP.Core.b64 (FP.i2d (i32 n)).toNat)) := by
    show (UInt64.ofNat _).toNat = _
    rw [UInt64.toNat_ofNat']
    exact Nat.mod_eq_of_lt h.2
  rw [e, show (0x7fffffffffffffff : UInt64).toNat = 2 ^ 63 - 1 by decide, Nat.and_two_pow_sub_one_eq_mod, show (0x7ff0000000000000 : UInt64).toNat = 9218868437227405312 by decide]
  exact h.1
theorem nan_share : ∀ c : Nat, c < 41 → ∀ l : Nat, l < 40 → (FP.fdiv (FP.i2f (i32 c)) (FP.i2f (i32 ((l : Int) + 1)))) &&& 0x7fffffff ≤ 0x7f800000 ∧ (FP.f2d (FP.fdiv (FP.i2f (i32 c)) (FP.i2f (i32 ((l : Int) + 1))))) &&& 0x7fffffffffffffff ≤ 0x7ff0000000000000 := by decide +kernel
theorem nan_one : (FP.f2d FP.fconst1) &&& 0x7fffffffffffffff ≤ 0x7ff0000000000000 := by decide +kernel
