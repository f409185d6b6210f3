/-! ===== the model: what a setup and the sights tell, in whole numbers ===== -/
abbrev Vw : Type := (Nat × Nat) × (Int → Int) × (Nat → Int → Int) × (Nat → Int → Int) × (Int → List Nat)
def vm (V : Vw) : Nat := V.1.1
def vn (V : Vw) : Nat := V.1.2
/-- settings: 0 LENGTH, 1 BEND, 2 WARM, 3 LIMIT, 4 told, 5 the told error -/
def vS (V : Vw) (i : Int) : Int := V.2.1 i
/-- marks: 0 place -/
def vK (V : Vw) (f : Nat) (k : Int) : Int := V.2.2.1 f k
/-- sights: 0 from, 1 to, 2 end, 3 reading, 4 heat, 5 struck -/
def vG (V : Vw) (f : Nat) (s : Int) : Int := V.2.2.2.1 f s
/-- names: letters 1 to 26 -/
def vN (V : Vw) (k : Int) : List Nat := V.2.2.2.2 k
def mkV (m n : Nat) (S : Int → Int) (K G : Nat → Int → Int) (N : Int → List Nat) : Vw := ((m, n), S, K, G, N)
def enc (B : Int) (l : List Nat) : Int := l.foldl (fun (v : Int) (c : Nat) => B * v + (c : Int)) 0
def okName (l : List Nat) : Prop := 1 ≤ l.length ∧ l.length ≤ 6 ∧ ∀ c ∈ l, 1 ≤ c ∧ c ≤ 26
def Good (V : Vw) : Prop :=
  vm V ≤ 12 ∧ vn V ≤ 40 ∧
  (1 ≤ vS V 0 ∧ vS V 0 ≤ 9999) ∧ (0 ≤ vS V 1 ∧ vS V 1 ≤ 99) ∧ (-99 ≤ vS V 2 ∧ vS V 2 ≤ 99) ∧ (0 ≤ vS V 3 ∧ vS V 3 ≤ 999) ∧ (vS V 4 = 0 ∨ vS V 4 = 1) ∧ (vS V 4 = 1 → -999 ≤ vS V 5 ∧ vS V 5 ≤ 999) ∧
  True ∧
  (∀ k : Int, 0 ≤ k → k < vm V → (0 ≤ vK V 0 k ∧ vK V 0 k ≤ 99999) ∧ okName (vN V k)) ∧
  (∀ k j : Int, 0 ≤ k → k < vm V → 0 ≤ j → j < vm V → k ≠ j → vK V 0 k ≠ vK V 0 j ∧ vN V k ≠ vN V j) ∧
  (∀ s : Int, 0 ≤ s → s < vn V → (0 ≤ vG V 0 s ∧ vG V 0 s < vm V) ∧ (0 ≤ vG V 1 s ∧ vG V 1 s < vm V) ∧ vG V 0 s ≠ vG V 1 s ∧ (vG V 2 s = 0 ∨ vG V 2 s = 1) ∧ (-9999 ≤ vG V 3 s ∧ vG V 3 s ≤ 9999) ∧ (-40 ≤ vG V 4 s ∧ vG V 4 s ≤ 60) ∧ (vG V 5 s = 0 ∨ vG V 5 s = 1))
/-! benches and heights: bench, has one, height -/
abbrev Hw : Type := (Int → Int) × (Int → Int) × (Int → Int)
def hb (H : Hw) (k : Int) : Int := H.1 k
def hh (H : Hw) (k : Int) : Int := H.2.1 k
def hv (H : Hw) (k : Int) : Int := H.2.2 k
def GoodH (m : Nat) (H : Hw) : Prop := ∀ k : Int, 0 ≤ k → k < 12 → (hb H k = 0 ∨ hb H k = 1) ∧ (hh H k = 0 ∨ hh H k = 1) ∧ (hb H k = 1 → hh H k = 1) ∧ (m ≤ k → hb H k = 0 ∧ hh H k = 0)
/-- heights within a bound -/
def HB (m : Nat) (H : Hw) (M : Int) : Prop := ∀ k : Int, 0 ≤ k → k < m → hh H k = 1 → -M ≤ hv H k ∧ hv H k ≤ M
def Rht (I : IM) (q : Nat) (H : Hw) : Prop := ∀ k : Int, 0 ≤ k → k < 12 → I (q + 2) k = hb H k ∧ I (q + 3) k = hh H k ∧ (hh H k = 1 → I (q + 4) k = hv H k)
def Rhr (I : IM) (r : Nat) (o : Int) (m : Nat) (H : Hw) : Prop := ∀ k : Int, 0 ≤ k → k < m → I r (o + 8 + 5 * k + 2) = hb H k ∧ I r (o + 8 + 5 * k + 3) = hh H k ∧ (hh H k = 1 → I r (o + 8 + 5 * k + 4) = hv H k)
/-! the class's rows, the reference's row -/
def Rst (I : IM) (q : Nat) (V : Vw) : Prop :=
  (∀ i : Int, 0 ≤ i → i < 4 → I (q + 1) i = vS V i) ∧ I q 1 = vS V 4 ∧ (vS V 4 = 1 → I q 2 = vS V 5) ∧ I q 6 = vn V ∧
  True ∧ True ∧ True ∧
  (∀ s : Int, 0 ≤ s → s < vn V → I (q + 5) s = vG V 0 s) ∧ (∀ s : Int, 0 ≤ s → s < vn V → I (q + 6) s = vG V 1 s) ∧ (∀ s : Int, 0 ≤ s → s < vn V → I (q + 7) s = vG V 2 s) ∧
  (∀ s : Int, 0 ≤ s → s < vn V → I (q + 8) s = vG V 3 s) ∧ (∀ s : Int, 0 ≤ s → s < vn V → I (q + 9) s = vG V 4 s) ∧ (∀ s : Int, 0 ≤ s → s < vn V → I (q + 10) s = vG V 5 s)
def Rwl (I : IM) (q : Nat) (V : Vw) : Prop :=
  I q 0 = vm V ∧ (∀ k : Int, 0 ≤ k → k < vm V → I (q + 1) k = enc 32 (vN V k)) ∧ (∀ k : Int, 0 ≤ k → k < vm V → I (q + 2) k = vK V 0 k)
def Rrw (I : IM) (r : Nat) (o : Int) (V : Vw) : Prop :=
  I r o = vm V ∧ I r (o + 1) = vn V ∧ (∀ i : Int, 0 ≤ i → i < 5 → I r (o + 2 + i) = vS V i) ∧ (vS V 4 = 1 → I r (o + 7) = vS V 5) ∧
  (∀ k : Int, 0 ≤ k → k < vm V → I r (o + 8 + 5 * k) = enc 27 (vN V k)) ∧ (∀ k : Int, 0 ≤ k → k < vm V → I r (o + 9 + 5 * k) = vK V 0 k) ∧ True ∧
  True ∧ True ∧
  (∀ s : Int, 0 ≤ s → s < vn V → ∀ f : Nat, f < 6 → I r (o + 68 + 6 * s + f) = vG V f s)
/-! sums and counts -/
def sm (f : Int → Int) : Nat → Int
  | 0 => 0
  | i + 1 => sm f i + f i
def ct (p : Int → Bool) : Nat → Nat
  | 0 => 0
  | i + 1 => ct p i + (if p i = true then 1 else 0)
theorem sm_bd {f : Int → Int} {M : Int} (n : Nat) (h : ∀ i : Int, 0 ≤ i → i < n → -M ≤ f i ∧ f i ≤ M) : -(n * M) ≤ sm f n ∧ sm f n ≤ n * M := by
  induction n with
  | zero => simp [sm]
  | succ n ih =>
    have h1 := ih (fun i a b => h i a (by omega))
    have h2 := h n (by omega) (by omega)
    have h3 : ((n + 1 : Nat) : Int) * M = n * M + M := by rw [Int.natCast_add, Int.add_mul]; simp
    simp only [sm]
    omega
theorem sm_congr {f g : Int → Int} (n : Nat) (h : ∀ i : Int, 0 ≤ i → i < n → f i = g i) : sm f n = sm g n := by
  induction n with
  | zero => rfl
  | succ n ih => simp only [sm]; rw [ih (fun i a b => h i a (by omega)), h n (by omega) (by omega)]
theorem ct_congr {p q : Int → Bool} (n : Nat) (h : ∀ i : Int, 0 ≤ i → i < n → p i = q i) : ct p n = ct q n := by
  induction n with
  | zero => rfl
  | succ n ih => simp only [ct]; rw [ih (fun i a b => h i a (by omega)), h n (by omega) (by omega)]
theorem ct_le (p : Int → Bool) (n : Nat) : ct p n ≤ n := by
  induction n with
  | zero => exact Nat.le_refl _
  | succ n ih => simp only [ct]; split <;> omega
theorem ct_mono (p : Int → Bool) {a b : Nat} (h : a ≤ b) : ct p a ≤ ct p b := by
  induction b with
  | zero => rw [Nat.le_zero.mp h]; exact Nat.le_refl _
  | succ b ih =>
    by_cases hb : a = b + 1
    · subst hb; exact Nat.le_refl _
    · have := ih (by omega)
      simp only [ct]
      split <;> omega
theorem ct_lt (p : Int → Bool) {a b : Nat} (h : a < b) (hp : p a = true) : ct p a < ct p b := by
  have h1 : ct p (a + 1) ≤ ct p b := ct_mono p h
  simp only [ct, hp, if_true] at h1
  omega
theorem ct_inj {p : Int → Bool} {a b : Nat} (ha : p a = true) (hb : p b = true) (h : ct p a = ct p b) : a = b := by
  rcases Nat.lt_trichotomy a b with h1 | h1 | h1
  · have := ct_lt p h1 ha; omega
  · exact h1
  · have := ct_lt p h1 hb; omega
/-- the next one that counts -/
theorem ct_next {p : Int → Bool} {N e : Nat} (h : e < ct p N) : ∃ k : Nat, k < N ∧ p k = true ∧ ct p k = e := by
  induction N with
  | zero => simp [ct] at h
  | succ N ih =>
    simp only [ct] at h
    by_cases hN : e < ct p N
    · obtain ⟨k, h1, h2, h3⟩ := ih hN
      exact ⟨k, by omega, h2, h3⟩
    · by_cases hp : p N = true
      · rw [if_pos hp] at h
        exact ⟨N, by omega, hp, by omega⟩
      · rw [if_neg hp] at h
        omega
theorem ct_one {p q : Int → Bool} {c : Int} (h : ∀ j : Int, q j = true → p j = true ∨ j = c) (n : Nat) : ct q n ≤ ct p n + 1 ∧ ((n : Int) ≤ c → ct q n ≤ ct p n) := by
  induction n with
  | zero => simp [ct]
  | succ n ih =>
    simp only [ct]
    have h1 := h n
    by_cases hq : q n = true
    · rw [if_pos hq]
      rcases h1 hq with h2 | h2
      · rw [if_pos h2]
        refine ⟨by omega, fun h => ?_⟩
        have := ih.2 (by omega)
        omega
      · have := ih.2 (by omega)
        refine ⟨by split <;> omega, fun h => by omega⟩
    · rw [if_neg hq]
      refine ⟨by split <;> omega, fun h => ?_⟩
      have := ih.2 (by omega)
      split <;> omega
/-! sights -/
def dst (V : Vw) (a b : Int) : Int := if vK V 0 a - vK V 0 b < 0 then -(vK V 0 a - vK V 0 b) else vK V 0 a - vK V 0 b
def sdst (V : Vw) (s : Int) : Int := dst V (vG V 0 s) (vG V 1 s)
def swg (d L : Int) : Int := (d + L - 1) / L
def bnd (V : Vw) (s : Int) : Int := vS V 1 * sdst V s * sdst V s / 100000000
def wrm (V : Vw) (s : Int) : Int := vS V 2 * (vG V 4 s - 20) * sdst V s / 100000
def pur (V : Vw) (s : Int) : Int := vG V 3 s - bnd V s - wrm V s
def pq (a b : Int) : Int := if a < b then 12 * a + b else 12 * b + a
def pr (V : Vw) (s : Int) : Int := pq (vG V 0 s) (vG V 1 s)
def flp (V : Vw) (s v : Int) : Int := if vG V 0 s < vG V 1 s then v else -v
def isW (V : Vw) (s : Int) : Bool := decide (vG V 2 s = 0) == decide (vG V 0 s < vG V 1 s)
def cn0 (V : Vw) (k s : Int) : Int := if vG V 5 s = 0 ∧ pr V s = k then 1 else 0
def wc0 (V : Vw) (k s : Int) : Int := if vG V 5 s = 0 ∧ pr V s = k ∧ isW V s = true then 1 else 0
def ws0 (V : Vw) (k s : Int) : Int := if vG V 5 s = 0 ∧ pr V s = k ∧ isW V s = true then flp V s (pur V s) else 0
def as0 (V : Vw) (k s : Int) : Int := if vG V 5 s = 0 ∧ pr V s = k ∧ isW V s = false then flp V s (pur V s) else 0
def cnt (V : Vw) (k : Int) : Int := sm (cn0 V k) (vn V)
def wcn (V : Vw) (k : Int) : Int := sm (wc0 V k) (vn V)
def wsu (V : Vw) (k : Int) : Int := sm (ws0 V k) (vn V)
def asu (V : Vw) (k : Int) : Int := sm (as0 V k) (vn V)
def isE (V : Vw) (k : Int) : Bool := decide (0 < cnt V k)
def rk (V : Vw) (k : Nat) : Nat := ct (isE V) k
def dk (V : Vw) (k : Int) : Int := dst V (k / 12) (k % 12)
def NOH : Int := -10000000
def est (V : Vw) (L k : Int) : Int := if ¬ swg (dk V k) L % 2 = 1 then NOH else if wcn V k = 0 ∨ cnt V k - wcn V k = 0 then NOH else (wsu V k / wcn V k - asu V k / (cnt V k - wcn V k)) / 2
def upd1 (f : Int → Int) (i v : Int) : Int → Int := fun j => if j = i then v else f j
def insA (v : Int) : Nat → (Int → Int) → (Int → Int)
  | 0, f => upd1 f 0 v
  | n + 1, f => if f n > v then insA v n (upd1 f (n + 1) (f n)) else upd1 f (n + 1) v
def estF (V : Vw) (L : Int) : Nat → Nat × (Int → Int)
  | 0 => (0, fun _ => 0)
  | k + 1 => if est V L k = NOH then estF V L k else ((estF V L k).1 + 1, insA (est V L k) (estF V L k).1 (estF V L k).2)
def ferr (V : Vw) (L : Int) : Int := if (estF V L 144).1 = 0 then 0 else (estF V L 144).2 (((estF V L 144).1 - 1) / 2)
def err (V : Vw) : Int := if vS V 4 = 1 then vS V 5 else ferr V (vS V 0)
def sgn (V : Vw) (s : Int) : Int := if swg (sdst V s) (vS V 0) % 2 = 1 then (if vG V 2 s = 0 then 1 else -1) else 0
def rs (V : Vw) (s : Int) : Int := pur V s - sgn V s * err V
def ru0 (V : Vw) (k s : Int) : Int := if vG V 5 s = 0 ∧ pr V s = k then flp V s (rs V s) else 0
def rsu (V : Vw) (k : Int) : Int := sm (ru0 V k) (vn V)
def ris (V : Vw) (k : Int) : Int := rsu V k / cnt V k
def wgt (V : Vw) (k : Int) : Int := cnt V k * (1000000 / dk V k)
/-- an edge's rise from one mark to another -/
def rf (V : Vw) (a b : Int) : Int := if a < b then ris V (pq a b) else -ris V (pq a b)
