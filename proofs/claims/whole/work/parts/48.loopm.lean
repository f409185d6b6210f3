/-! ===== the way along the forest; loops ===== -/
noncomputable def fd (V : Vw) : Int → Int → Int := @dite (Int → Int → Int) (∃ d, TI V (forest V) d) (Classical.propDecidable _) (fun h => h.choose) (fun _ => fun _ _ => 0)
theorem fd_TI {V : Vw} (hG : Good V) : TI V (forest V) (fd V) := by
  have h : ∃ d, TI V (forest V) d := gro_TI hG (nE V) (Nat.le_refl _)
  unfold fd
  rw [dif_pos h]
  exact h.choose_spec
/-- marks from x on towards t -/
def pth (V : Vw) (t x : Int) : Nat → Int
  | 0 => x
  | i + 1 => fH (forest V) (pth V t x i) t
def jn (V : Vw) (x t : Int) : Prop := fP (forest V) x = fP (forest V) t
section Path55
variable {V : Vw} {x t : Int}
theorem fd_rg (hG : Good V) (hx : mark12 x) (ht : mark12 t) (hj : jn V x t) : 0 ≤ fd V x t ∧ fd V x t ≤ 11 := by
  have h := (fd_TI hG).2.2.2.1 x t hx ht hj
  have := ct_le (fun y => decide (fP (forest V) y = fP (forest V) x)) 12
  have h2 := h.2.1
  unfold psz at h2
  omega
theorem pth_ok (hG : Good V) (hx : mark12 x) (ht : mark12 t) (hj : jn V x t) : ∀ i : Nat, (i : Int) ≤ fd V x t → mark12 (pth V t x i) ∧ jn V (pth V t x i) t ∧ fd V (pth V t x i) t = fd V x t - i := by
  intro i
  induction i with
  | zero => intro _; exact ⟨hx, hj, by simp [pth]⟩
  | succ i ih =>
    intro hi
    obtain ⟨h1, h2, h3⟩ := ih (by omega)
    have hne : pth V t x i ≠ t := fun q => by rw [q, ((fd_TI hG).1 t ht).1] at h3; omega
    have g := (fd_TI hG).2.1 _ t h1 ht h2 hne
    refine ⟨g.1, ?_, ?_⟩
    · unfold jn at *; simp only [pth]; rw [g.2.2.1]; exact h2
    · simp only [pth]; omega
theorem fd_zero (hG : Good V) (hx : mark12 x) (ht : mark12 t) (hj : jn V x t) (h0 : fd V x t = 0) : x = t := by
  rcases Decidable.em (x = t) with h | h
  · exact h
  · have g := (fd_TI hG).2.1 x t hx ht hj h
    have g2 := fd_rg (x := fH (forest V) x t) hG g.1 ht (by unfold jn at *; rw [g.2.2.1]; exact hj)
    omega
theorem pth_end (hG : Good V) (hx : mark12 x) (ht : mark12 t) (hj : jn V x t) {n : Nat} (hn : (n : Int) = fd V x t) : pth V t x n = t := by
  have h := pth_ok hG hx ht hj n (by omega)
  exact fd_zero hG h.1 ht h.2.1 (by omega)
theorem pth_step (hG : Good V) (hx : mark12 x) (ht : mark12 t) (hj : jn V x t) {i : Nat} (hi : (i : Int) < fd V x t) : pth V t x i ≠ t ∧ pth V t x (i + 1) ≠ pth V t x i ∧ fT (forest V) (pq (pth V t x i) (pth V t x (i + 1))) = true ∧ fC (forest V) (pth V t x i) t = rf V (pth V t x i) (pth V t x (i + 1)) + fC (forest V) (pth V t x (i + 1)) t := by
  obtain ⟨h1, h2, h3⟩ := pth_ok hG hx ht hj i (by omega)
  have hne : pth V t x i ≠ t := fun q => by rw [q, ((fd_TI hG).1 t ht).1] at h3; omega
  have g := (fd_TI hG).2.1 _ t h1 ht h2 hne
  exact ⟨hne, g.2.1, g.2.2.2.1, g.2.2.2.2.2⟩
theorem pth_inj (hG : Good V) (hx : mark12 x) (ht : mark12 t) (hj : jn V x t) {i j : Nat} (hi : (i : Int) ≤ fd V x t) (hk : (j : Int) ≤ fd V x t) (h : pth V t x i = pth V t x j) : i = j := by
  have h1 := (pth_ok hG hx ht hj i hi).2.2
  have h2 := (pth_ok hG hx ht hj j hk).2.2
  rw [h] at h1
  omega
theorem pq_eq {a b c d : Int} (h : pq a b = pq c d) (ha : mark12 a) (hb : mark12 b) (hc : mark12 c) (hd : mark12 d) : (a = c ∧ b = d) ∨ (a = d ∧ b = c) := by
  unfold pq mark12 at *
  split at h <;> split at h <;> omega
theorem rf_bd (hG : Good V) {a b : Int} (ha : mark12 a) (hb : mark12 b) (hE : isE V (pq a b) = true) : -51678 ≤ rf V a b ∧ rf V a b ≤ 51678 := by
  have := gd_ris hG (isE_iff.mp hE)
  unfold rf; split <;> omega
theorem fC_bd (hG : Good V) (ht : mark12 t) : ∀ (n : Nat) (x : Int), mark12 x → jn V x t → fd V x t = n → -(n * 51678) ≤ fC (forest V) x t ∧ fC (forest V) x t ≤ n * 51678 := by
  intro n
  induction n with
  | zero =>
    intro x hx hj h
    have := fd_zero hG hx ht hj h
    subst this
    rw [((fd_TI hG).1 x hx).2.1]; omega
  | succ n ih =>
    intro x hx hj h
    have s := pth_step hG hx ht hj (i := 0) (by omega)
    have o := pth_ok hG hx ht hj 1 (by omega)
    have e1 := ih _ o.1 o.2.1 (by have := o.2.2; omega)
    have e2 := rf_bd hG (a := pth V t x 0) (b := pth V t x 1) hx o.1 ((fd_TI hG).2.2.2.2 _ s.2.2.1)
    have e3 := s.2.2.2
    simp only [Nat.zero_add] at e3 s
    have e4 : fC (forest V) (pth V t x 0) t = fC (forest V) x t := rfl
    omega
end Path55
/-- an edge outside the forest -/
def isL (V : Vw) (k : Int) : Bool := isE V k && !fT (forest V) k
def lk (V : Vw) (k : Nat) : Nat := ct (isL V) k
def nL (V : Vw) : Nat := lk V 144
/-- the loop of k: how far apart its ends are along the forest, its marks, way, misclosure -/
noncomputable def lD (V : Vw) (k : Int) : Nat := (fd V (k % 12) (k / 12)).toNat
def lM (V : Vw) (k : Int) : Nat → Int
  | 0 => k / 12
  | i + 1 => pth V (k / 12) (k % 12) i
def pw (V : Vw) (t x : Int) : Nat → Int
  | 0 => 0
  | i + 1 => pw V t x i + dst V (pth V t x i) (pth V t x (i + 1))
noncomputable def lW (V : Vw) (k : Int) : Int := dk V k + pw V (k / 12) (k % 12) (lD V k)
def lC (V : Vw) (k : Int) : Int := ris V k + fC (forest V) (k % 12) (k / 12)
noncomputable def clo (V : Vw) (lim k : Int) : Bool := decide (1000 * (lC V k * lC V k) ≤ lW V k * lim * lim)
/-- the i-th edge of the loop -/
def lE (V : Vw) (k : Int) : Nat → Int
  | 0 => k
  | i + 1 => pq (pth V (k / 12) (k % 12) i) (pth V (k / 12) (k % 12) (i + 1))
def cE (V : Vw) (k j : Int) : Nat → Nat
  | 0 => 0
  | i + 1 => cE V k j i + (if lE V k i = j then 1 else 0)
noncomputable def inL (V : Vw) (k j : Int) : Bool := decide (cE V k j (lD V k + 1) = 1)
section Loop55
variable {V : Vw} {k : Int}
theorem isL_E (h : isL V k = true) : isE V k = true ∧ fT (forest V) k = false := by
  unfold isL at h
  simpa using h
theorem E_jn (hG : Good V) (h : isE V k = true) : mark12 (k / 12) ∧ mark12 (k % 12) ∧ jn V (k % 12) (k / 12) := by
  have c := gd_E hG (isE_iff.mp h)
  have m := hG.1
  refine ⟨⟨by omega, by omega⟩, ⟨by omega, by omega⟩, ?_⟩
  obtain ⟨t, h1, h2⟩ := (so_ok V).2.2 k.toNat (by omega) (by rw [Int.toNat_of_nonneg c.2.1]; exact h)
  rw [Int.toNat_of_nonneg c.2.1] at h2
  have := gro_join V (nE V) t h1
  rw [h2] at this
  exact this.symm
theorem lD_ok (hG : Good V) (h : isE V k = true) : (lD V k : Int) = fd V (k % 12) (k / 12) ∧ 1 ≤ lD V k ∧ lD V k ≤ 11 := by
  have j := E_jn hG h
  have g := fd_rg hG j.2.1 j.1 j.2.2
  have c := gd_E hG (isE_iff.mp h)
  have : fd V (k % 12) (k / 12) ≠ 0 := fun q => by have := fd_zero hG j.2.1 j.1 j.2.2 q; omega
  unfold lD
  omega
theorem lM_ok (hG : Good V) (h : isE V k = true) {i : Nat} (hi : i ≤ lD V k) : mark12 (lM V k i) := by
  have j := E_jn hG h
  have d := lD_ok hG h
  cases i with
  | zero => exact j.1
  | succ i => exact (pth_ok hG j.2.1 j.1 j.2.2 i (by omega)).1
theorem lE_ok (hG : Good V) (h : isL V k = true) {i : Nat} (hi : i ≤ lD V k) : isE V (lE V k i) = true ∧ (i ≠ 0 → fT (forest V) (lE V k i) = true) := by
  have hE := (isL_E h).1
  have j := E_jn hG hE
  have d := lD_ok hG hE
  cases i with
  | zero => exact ⟨hE, fun q => absurd rfl q⟩
  | succ i =>
    have s := pth_step hG j.2.1 j.1 j.2.2 (i := i) (by omega)
    exact ⟨(fd_TI hG).2.2.2.2 _ s.2.2.1, fun _ => s.2.2.1⟩
theorem lE_inj (hG : Good V) (h : isL V k = true) {i j : Nat} (hi : i ≤ lD V k) (hj : j ≤ lD V k) (he : lE V k i = lE V k j) : i = j := by
  have hE := (isL_E h).1
  have g := E_jn hG hE
  have d := lD_ok hG hE
  have nt := (isL_E h).2
  cases i with
  | zero =>
    cases j with
    | zero => rfl
    | succ j =>
      have := (lE_ok hG h hj).2 (by omega)
      rw [← he] at this
      have : fT (forest V) k = true := this
      rw [nt] at this; exact absurd this (by decide)
  | succ i =>
    cases j with
    | zero =>
      have := (lE_ok hG h hi).2 (by omega)
      rw [he] at this
      have : fT (forest V) k = true := this
      rw [nt] at this; exact absurd this (by decide)
    | succ j =>
      have a1 := pth_ok hG g.2.1 g.1 g.2.2 i (by omega)
      have a2 := pth_ok hG g.2.1 g.1 g.2.2 (i + 1) (by omega)
      have b1 := pth_ok hG g.2.1 g.1 g.2.2 j (by omega)
      have b2 := pth_ok hG g.2.1 g.1 g.2.2 (j + 1) (by omega)
      rcases pq_eq he a1.1 a2.1 b1.1 b2.1 with ⟨q1, q2⟩ | ⟨q1, q2⟩
      · have := pth_inj hG g.2.1 g.1 g.2.2 (by omega) (by omega) q1; omega
      · have e1 := pth_inj hG g.2.1 g.1 g.2.2 (i := i) (j := j + 1) (by omega) (by omega) q1
        have e2 := pth_inj hG g.2.1 g.1 g.2.2 (i := i + 1) (j := j) (by omega) (by omega) q2
        omega
/-- each edge is at most once in a loop -/
theorem cE_01 (hG : Good V) (h : isL V k = true) (j : Int) : ∀ n : Nat, n ≤ lD V k + 1 → (cE V k j n = 0 ∧ ∀ i : Nat, i < n → lE V k i ≠ j) ∨ (cE V k j n = 1 ∧ ∃ i : Nat, i < n ∧ lE V k i = j) := by
  intro n
  induction n with
  | zero => intro _; left; exact ⟨rfl, fun i h => by omega⟩
  | succ n ih =>
    intro hn
    simp only [cE]
    rcases ih (by omega) with ⟨h1, h2⟩ | ⟨h1, i, h2, h3⟩
    · by_cases he : lE V k n = j
      · right; rw [if_pos he]; exact ⟨by omega, n, by omega, he⟩
      · left; rw [if_neg he]
        refine ⟨by omega, fun i hi => ?_⟩
        by_cases hin : i = n
        · subst hin; exact he
        · exact h2 i (by omega)
    · right
      have : lE V k n ≠ j := fun q => by have := lE_inj hG h (i := i) (j := n) (by omega) (by omega) (h3.trans q.symm); omega
      rw [if_neg this]
      exact ⟨by omega, i, by omega, h3⟩
theorem pq_m {a b m : Int} (ha : mark12 a) (hb : mark12 b) (h1 : pq a b / 12 < pq a b % 12) (h : pq a b % 12 < m) : a < m ∧ b < m := by
  unfold pq mark12 at *
  split at h <;> split at h1 <;> omega
theorem pth_m (hG : Good V) (h : isE V k = true) : ∀ i : Nat, i ≤ lD V k → 0 ≤ pth V (k / 12) (k % 12) i ∧ pth V (k / 12) (k % 12) i < vm V := by
  intro i hi
  have j := E_jn hG h
  have d := lD_ok hG h
  have o := pth_ok hG j.2.1 j.1 j.2.2 i (by omega)
  refine ⟨o.1.1, ?_⟩
  cases i with
  | zero => exact (gd_E hG (isE_iff.mp h)).2.2.2.2.2.1
  | succ i =>
    have s := pth_step hG j.2.1 j.1 j.2.2 (i := i) (by omega)
    have c := gd_E hG (isE_iff.mp ((fd_TI hG).2.2.2.2 _ s.2.2.1))
    have o2 := pth_ok hG j.2.1 j.1 j.2.2 i (by omega)
    exact (pq_m o2.1 o.1 c.2.2.2.2.1 c.2.2.2.2.2.1).2
theorem pw_bd (hG : Good V) (h : isE V k = true) : ∀ n : Nat, n ≤ lD V k → 0 ≤ pw V (k / 12) (k % 12) n ∧ pw V (k / 12) (k % 12) n ≤ n * 99999 := by
  intro n
  induction n with
  | zero => intro _; simp [pw]
  | succ n ih =>
    intro hn
    have := ih (by omega)
    have := gd_dst hG (pth_m hG h n (by omega)) (pth_m hG h (n + 1) (by omega))
    simp only [pw]
    omega
theorem lW_bd (hG : Good V) (h : isE V k = true) : 0 < lW V k ∧ lW V k ≤ 1199988 := by
  have a := pw_bd hG h (lD V k) (Nat.le_refl _)
  have b := gd_E hG (isE_iff.mp h)
  have c := lD_ok hG h
  unfold lW
  omega
theorem lC_bd (hG : Good V) (h : isE V k = true) : -620136 ≤ lC V k ∧ lC V k ≤ 620136 := by
  have j := E_jn hG h
  have d := lD_ok hG h
  have a := fC_bd hG j.1 (lD V k) _ j.2.1 j.2.2 d.1.symm
  have b := gd_ris hG (isE_iff.mp h)
  unfold lC
  omega
end Loop55
