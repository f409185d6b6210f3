/-! ===== the parse's model: bytes, runs, tokens ===== -/
def bt (l : List Int) (k : Nat) : Int := if k < l.length then l.getD k 0 else -1
def isBl (c : Int) : Bool := decide (c = 32 ∨ c = 10)
def isLt (c : Int) : Bool := decide (97 ≤ c ∧ c ≤ 122)
def isDg (c : Int) : Bool := decide (48 ≤ c ∧ c ≤ 57)
def run (P : Int → Bool) (l : List Int) : Nat → Nat → Nat
  | 0, p => p
  | f + 1, p => if P (bt l p) = true then run P l f (p + 1) else p
def ru (P : Int → Bool) (l : List Int) (p : Nat) : Nat := run P l (l.length - p) p
theorem bt_end {l : List Int} {k : Nat} (h : l.length ≤ k) : bt l k = -1 := by unfold bt; rw [if_neg (by omega)]
theorem ru_ok {P : Int → Bool} {l : List Int} {p : Nat} (h : p ≤ l.length) (hP : P (-1) = false) : p ≤ ru P l p ∧ ru P l p ≤ l.length ∧ (∀ j, p ≤ j → j < ru P l p → P (bt l j) = true) ∧ P (bt l (ru P l p)) = false := by
  have key : ∀ f p, p + f = l.length → p ≤ run P l f p ∧ run P l f p ≤ l.length ∧ (∀ j, p ≤ j → j < run P l f p → P (bt l j) = true) ∧ P (bt l (run P l f p)) = false := by
    intro f
    induction f with
    | zero => intro p hp; exact ⟨Nat.le_refl _, by show p ≤ _; omega, fun j h1 h2 => by have h2 : j < p := h2; omega, by show P (bt l p) = false; rw [bt_end (by omega)]; exact hP⟩
    | succ f ih =>
      intro p hp
      simp only [run]
      by_cases hc : P (bt l p) = true
      · rw [if_pos hc]
        obtain ⟨a, b, c, d⟩ := ih (p + 1) (by omega)
        refine ⟨by omega, b, fun j h1 h2 => ?_, d⟩
        by_cases hj : j = p
        · rw [hj]; exact hc
        · exact c j (by omega) h2
      · rw [if_neg hc]
        exact ⟨Nat.le_refl _, by omega, fun j h1 h2 => by omega, by cases h : P (bt l p) <;> simp_all⟩
  exact key _ _ (by omega)
abbrev Tk : Type := Nat × Nat × Nat × List Nat × Int
def tK (t : Tk) : Nat := t.1
def tS (t : Tk) : Nat := t.2.1
def tE (t : Tk) : Nat := t.2.2.1
def tN (t : Tk) : List Nat := t.2.2.2.1
def tV (t : Tk) : Int := t.2.2.2.2
def nms (l : List Int) (s : Nat) : Nat → List Nat
  | 0 => []
  | n + 1 => nms l s n ++ [(bt l (s + n) - 96).toNat]
def vls (l : List Int) (s : Nat) : Nat → Int
  | 0 => 0
  | n + 1 => 10 * vls l s n + bt l (s + n) - 48
/-- the quoted words: mark at sight fore back heat length error bend warm limit -/
def kwL : Nat → List Nat
  | 0 => [13, 1, 18, 11] | 1 => [1, 20] | 2 => [19, 9, 7, 8, 20] | 3 => [6, 15, 18, 5] | 4 => [2, 1, 3, 11] | 5 => [8, 5, 1, 20]
  | 6 => [12, 5, 14, 7, 20, 8] | 7 => [5, 18, 18, 15, 18] | 8 => [2, 5, 14, 4] | 9 => [23, 1, 18, 13] | _ => [12, 9, 13, 9, 20]
/-- which of the words below K; 11 if it is none -/
def kwf (w : List Nat) : Nat → Nat
  | 0 => 11
  | k + 1 => if kwf w k = 11 then (if kwL k = w then k else 11) else kwf w k
def kw (w : List Nat) : Nat := kwf w 11
def tk (l : List Int) (p : Nat) : Tk :=
  if isLt (bt l (ru isBl l p)) = true then (if ru isLt l (ru isBl l p) - ru isBl l p ≤ 6 then kw (nms l (ru isBl l p) (ru isLt l (ru isBl l p) - ru isBl l p)) else 16, ru isBl l p, ru isLt l (ru isBl l p), nms l (ru isBl l p) (ru isLt l (ru isBl l p) - ru isBl l p), 0)
  else if isDg (bt l (ru isBl l p)) = true then (if ru isDg l (ru isBl l p) - ru isBl l p ≤ 5 then 12 else 16, ru isBl l p, ru isDg l (ru isBl l p), [], vls l (ru isBl l p) (ru isDg l (ru isBl l p) - ru isBl l p))
  else if bt l (ru isBl l p) = -1 then (15, ru isBl l p, ru isBl l p, [], 0)
  else (if bt l (ru isBl l p) = 45 then 13 else if bt l (ru isBl l p) = 59 then 14 else 16, ru isBl l p, ru isBl l p + 1, [], 0)
theorem enc_inj {B : Nat} : ∀ (n : Nat) (l l' : List Nat), l.length = n → (∀ c ∈ l, 1 ≤ c ∧ c < B) → (∀ c ∈ l', 1 ≤ c ∧ c < B) → enc B l = enc B l' → l = l' := by
  intro n
  induction n with
  | zero =>
    intro l l' h h1 h2 h3
    rw [List.length_eq_zero_iff.mp h] at h3 ⊢
    rcases List.eq_nil_or_concat l' with h4 | ⟨a, b, h4⟩
    · exact h4.symm
    · have h4 : l' = a ++ [b] := by rw [h4]; simp
      subst h4
      have hb := h2 b (by simp)
      have ha := (enc_lt (B := B) _ a rfl (fun c hc => h2 c (List.mem_append_left _ hc))).1
      rw [enc_snoc] at h3
      have : 0 ≤ (B : Int) * enc B a := Int.mul_nonneg (by omega) ha
      have h3 : (0 : Int) = B * enc B a + b := h3
      omega
  | succ n ih =>
    intro l l' h h1 h2 h3
    rcases List.eq_nil_or_concat l with h4 | ⟨a, b, h4⟩
    · subst h4; simp at h
    have h4 : l = a ++ [b] := by rw [h4]; simp
    subst h4
    have hb := h1 b (by simp)
    have ha := (enc_lt (B := B) _ a rfl (fun c hc => h1 c (List.mem_append_left _ hc))).1
    have p1 : 0 ≤ (B : Int) * enc B a := Int.mul_nonneg (by omega) ha
    rw [enc_snoc] at h3
    rcases List.eq_nil_or_concat l' with h5 | ⟨a', b', h5⟩
    · subst h5
      have h3 : (B : Int) * enc B a + b = 0 := h3
      omega
    · have h5 : l' = a' ++ [b'] := by rw [h5]; simp
      subst h5
      have hb' := h2 b' (by simp)
      rw [enc_snoc] at h3
      have e1 : (b : Int) = b' := by
        have m1 : ((B : Int) * enc B a + b) % B = b := by rw [Int.add_comm, Int.add_mul_emod_self_left, Int.emod_eq_of_lt (by omega) (by omega)]
        have m2 : ((B : Int) * enc B a' + b') % B = b' := by rw [Int.add_comm, Int.add_mul_emod_self_left, Int.emod_eq_of_lt (by omega) (by omega)]
        rw [← m1, ← m2, h3]
      have e2 : enc B a = enc B a' := by
        have : (B : Int) * enc B a = B * enc B a' := by omega
        exact Int.eq_of_mul_eq_mul_left (by omega) this
      rw [ih a a' (by simpa using h) (fun c hc => h1 c (List.mem_append_left _ hc)) (fun c hc => h2 c (List.mem_append_left _ hc)) e2, show b = b' by omega]
theorem isLt_iff {c : Int} : isLt c = true ↔ 97 ≤ c ∧ c ≤ 122 := by unfold isLt; exact decide_eq_true_iff
theorem isDg_iff {c : Int} : isDg c = true ↔ 48 ≤ c ∧ c ≤ 57 := by unfold isDg; exact decide_eq_true_iff
theorem isBl_iff {c : Int} : isBl c = true ↔ c = 32 ∨ c = 10 := by unfold isBl; exact decide_eq_true_iff
theorem nms_len (l : List Int) (s n : Nat) : (nms l s n).length = n := by
  induction n with
  | zero => rfl
  | succ n ih => simp [nms, ih]
theorem nms_mem {l : List Int} {s n : Nat} (h : ∀ j, s ≤ j → j < s + n → isLt (bt l j) = true) : ∀ c ∈ nms l s n, 1 ≤ c ∧ c ≤ 26 := by
  induction n with
  | zero => intro c hc; simp [nms] at hc
  | succ n ih =>
    intro c hc
    rcases List.mem_append.mp hc with h1 | h1
    · exact ih (fun j a b => h j a (by omega)) c h1
    · have := isLt_iff.mp (h (s + n) (by omega) (by omega))
      simp at h1
      omega
theorem vls_bd {l : List Int} {s : Nat} : ∀ n, n ≤ 5 → (∀ j, s ≤ j → j < s + n → isDg (bt l j) = true) → 0 ≤ vls l s n ∧ vls l s n ≤ 99999 ∧ (n ≤ 4 → vls l s n ≤ 9999) ∧ (n ≤ 3 → vls l s n ≤ 999) ∧ (n ≤ 2 → vls l s n ≤ 99) ∧ (n ≤ 1 → vls l s n ≤ 9) ∧ (n = 0 → vls l s n = 0) := by
  intro n
  induction n with
  | zero => intro _ _; simp [vls]
  | succ n ih =>
    intro hn h
    have i := ih (by omega) (fun j a b => h j a (by omega))
    have d := isDg_iff.mp (h (s + n) (by omega) (by omega))
    simp only [vls]
    omega
theorem kwf_rg (w : List Nat) : ∀ k, k ≤ 11 → kwf w k = 11 ∨ kwf w k < k := by
  intro k
  induction k with
  | zero => intro _; exact Or.inl rfl
  | succ k ih =>
    intro h
    simp only [kwf]
    rcases ih (by omega) with h1 | h1
    · rw [if_pos h1]; split
      · exact Or.inr (by omega)
      · exact Or.inl rfl
    · rw [if_neg (by omega)]; exact Or.inr (by omega)
theorem kw_rg (w : List Nat) : kw w ≤ 11 := by have := kwf_rg w 11 (by omega); unfold kw; omega
theorem kwL_ok : ∀ k, k < 11 → okName (kwL k) := by
  intro k h
  match k, h with
  | 0, _ | 1, _ | 2, _ | 3, _ | 4, _ | 5, _ | 6, _ | 7, _ | 8, _ | 9, _ | 10, _ => refine ⟨by decide, by decide, ?_⟩; decide
/-- the word of a keyword -/
theorem kwf_eq (w : List Nat) : ∀ k, k ≤ 11 → kwf w k < 11 → kwL (kwf w k) = w := by
  intro k
  induction k with
  | zero => intro _ h; simp [kwf] at h
  | succ k ih =>
    intro h h2
    simp only [kwf] at h2 ⊢
    by_cases h1 : kwf w k = 11
    · rw [if_pos h1] at h2 ⊢
      by_cases h3 : kwL k = w
      · rw [if_pos h3]; exact h3
      · rw [if_neg h3] at h2; omega
    · rw [if_neg h1] at h2 ⊢
      exact ih (by omega) h2
/-- what a token is good for -/
theorem tk_ok (l : List Int) (p : Nat) (h : p ≤ l.length) : p ≤ tS (tk l p) ∧ tS (tk l p) ≤ tE (tk l p) ∧ tE (tk l p) ≤ l.length ∧ tK (tk l p) ≤ 16 ∧ (tK (tk l p) ≠ 15 → tS (tk l p) < tE (tk l p)) ∧ (tK (tk l p) = 11 → okName (tN (tk l p))) ∧ (tK (tk l p) = 12 → 0 ≤ tV (tk l p) ∧ tV (tk l p) ≤ 99999) := by
  have b := ru_ok (P := isBl) h rfl
  unfold tk
  generalize ru isBl l p = s at *
  have eL := ru_ok (P := isLt) b.2.1 rfl
  have eD := ru_ok (P := isDg) b.2.1 rfl
  have nz : ∀ P : Int → Bool, P (-1) = false → P (bt l s) = true → s < ru P l s := by
    intro P h0 hp
    have := ru_ok (P := P) b.2.1 h0
    by_cases h2 : ru P l s = s
    · rw [h2] at this; rw [hp] at this; exact absurd this.2.2.2 (by decide)
    · omega
  by_cases h1 : isLt (bt l s) = true
  · rw [if_pos h1]
    have z := nz isLt rfl h1
    generalize ru isLt l s = e at *
    have k := kw_rg (nms l s (e - s))
    refine ⟨b.1, by show s ≤ e; omega, eL.2.1, ?_, fun _ => by show s < e; omega, fun hk => ?_, fun hk => ?_⟩
    · show (if e - s ≤ 6 then kw (nms l s (e - s)) else 16) ≤ 16
      split <;> omega
    · have hk : (if e - s ≤ 6 then kw (nms l s (e - s)) else 16) = 11 := hk
      show okName (nms l s (e - s))
      refine ⟨by rw [nms_len]; omega, by rw [nms_len]; split at hk <;> omega, nms_mem fun j a b => eL.2.2.1 j a (by omega)⟩
    · have hk : (if e - s ≤ 6 then kw (nms l s (e - s)) else 16) = 12 := hk
      split at hk <;> omega
  · rw [if_neg h1]
    by_cases h2 : isDg (bt l s) = true
    · rw [if_pos h2]
      have z := nz isDg rfl h2
      generalize ru isDg l s = e at *
      refine ⟨b.1, by show s ≤ e; omega, eD.2.1, ?_, fun _ => by show s < e; omega, fun hk => ?_, fun hk => ?_⟩
      · show (if e - s ≤ 5 then 12 else 16) ≤ 16
        split <;> omega
      · have hk : (if e - s ≤ 5 then 12 else 16) = 11 := hk
        split at hk <;> omega
      · have hk : (if e - s ≤ 5 then 12 else 16) = 12 := hk
        have := vls_bd (l := l) (s := s) (e - s) (by split at hk <;> omega) (fun j a b => eD.2.2.1 j a (by omega))
        exact ⟨this.1, this.2.1⟩
    · rw [if_neg h2]
      by_cases h3 : bt l s = -1
      · rw [if_pos h3]
        refine ⟨b.1, Nat.le_refl _, b.2.1, by show 15 ≤ 16; omega, fun hk => absurd rfl hk, fun hk => ?_, fun hk => ?_⟩
        · have hk : (15 : Nat) = 11 := hk
          omega
        · have hk : (15 : Nat) = 12 := hk
          omega
      · rw [if_neg h3]
        have hs : s < l.length := by
          rcases Nat.lt_or_ge s l.length with h | h
          · exact h
          · exact absurd (bt_end h) h3
        refine ⟨b.1, by show s ≤ s + 1; omega, by show s + 1 ≤ _; omega, ?_, fun _ => by show s < s + 1; omega, fun hk => ?_, fun hk => ?_⟩
        · show (if bt l s = 45 then 13 else if bt l s = 59 then 14 else 16) ≤ 16
          split <;> (try split) <;> omega
        · have hk : (if bt l s = 45 then 13 else if bt l s = 59 then 14 else 16) = 11 := hk
          split at hk <;> (try split at hk) <;> omega
        · have hk : (if bt l s = 45 then 13 else if bt l s = 59 then 14 else 16) = 12 := hk
          split at hk <;> (try split at hk) <;> omega
theorem i32_shl {w b : Int} (hb : 0 ≤ b ∧ b < 32) : (i32 w <<< ((5 : Int32) &&& 31)) ||| i32 b = i32 (32 * w + b) := by
  apply Int32.toBitVec_inj.mp
  have e5 : ((5 : Int32) &&& 31).toBitVec.smod 32 = 5#32 := by decide +kernel
  have s5 : (i32 w <<< ((5 : Int32) &&& 31)).toBitVec = (i32 w).toBitVec <<< 5 := by
    rw [Int32.toBitVec_shiftLeft, e5]
    rfl
  rw [Int32.toBitVec_or, s5]
  have hz : ((i32 w).toBitVec <<< 5) &&& (i32 b).toBitVec = 0#32 := by
    apply BitVec.eq_of_getLsbD_eq
    intro i hi
    rw [BitVec.getLsbD_and, BitVec.getLsbD_shiftLeft]
    by_cases h : i < 5
    · simp [h]
    · have : (i32 b).toBitVec.getLsbD i = false := by
        unfold BitVec.getLsbD
        apply Nat.testBit_lt_two_pow
        rw [i32_nat hb.1 (by omega)]
        have : 2 ^ 5 ≤ 2 ^ i := Nat.pow_le_pow_right (by omega) (by omega)
        omega
      rw [this]; simp
  rw [← BitVec.add_eq_or_of_and_eq_zero _ _ hz]
  have hm : (i32 w).toBitVec <<< 5 = (i32 (32 * w)).toBitVec := by
    rw [← i32_mul, Int32.toBitVec_mul, BitVec.shiftLeft_eq_mul_twoPow, BitVec.mul_comm]
    rfl
  rw [hm, ← Int32.toBitVec_add, i32_add]
