/-! ===== the forest, as a number of steps over the edges by distance ===== -/
/-- parts, taken, hops, climbs -/
abbrev Fo : Type := (Int → Int) × (Int → Bool) × (Int → Int → Int) × (Int → Int → Int)
def fP (F : Fo) (x : Int) : Int := F.1 x
def fT (F : Fo) (k : Int) : Bool := F.2.1 k
def fH (F : Fo) (a b : Int) : Int := F.2.2.1 a b
def fC (F : Fo) (a b : Int) : Int := F.2.2.2 a b
def fo0 : Fo := (fun x => x, fun _ => false, fun _ _ => 0, fun _ _ => 0)
def mn2 (a b : Int) : Int := if a < b then a else b
def take (V : Vw) (k : Int) (F : Fo) : Fo :=
  (fun x => if fP F x = fP F (k / 12) ∨ fP F x = fP F (k % 12) then mn2 (fP F (k / 12)) (fP F (k % 12)) else fP F x,
   fun j => if j = k then true else fT F j,
   fun a b => if fP F a = fP F (k / 12) ∧ fP F b = fP F (k % 12) then (if a = k / 12 then k % 12 else fH F a (k / 12)) else if fP F a = fP F (k % 12) ∧ fP F b = fP F (k / 12) then (if a = k % 12 then k / 12 else fH F a (k % 12)) else fH F a b,
   fun a b => if fP F a = fP F (k / 12) ∧ fP F b = fP F (k % 12) then fC F a (k / 12) + ris V k + fC F (k % 12) b else if fP F a = fP F (k % 12) ∧ fP F b = fP F (k / 12) then -(fC F b (k / 12) + ris V k + fC F (k % 12) a) else fC F a b)
def stp (V : Vw) (k : Int) (F : Fo) : Fo := if fP F (k / 12) = fP F (k % 12) then F else take V k F
/-- a place found from the end -/
def insB (d : Int → Int) (x : Int) : Nat → (Int → Int) → (Int → Int)
  | 0, f => upd1 f 0 x
  | n + 1, f => if d (f n) > d x then insB d x n (upd1 f (n + 1) (f n)) else upd1 f (n + 1) x
def srtF (V : Vw) : Nat → Int → Int
  | 0 => fun _ => 0
  | k + 1 => if isE V k = true then insB (dk V) k (rk V k) (srtF V k) else srtF V k
/-- the i-th edge by distance -/
def so (V : Vw) (i : Int) : Int := srtF V 144 i
def nE (V : Vw) : Nat := rk V 144
def gro (V : Vw) : Nat → Fo
  | 0 => fo0
  | i + 1 => stp V (so V i) (gro V i)
def forest (V : Vw) : Fo := gro V (nE V)
theorem insB_spec (d : Int → Int) (x : Int) : ∀ (n : Nat) (f : Int → Int), ∃ p : Nat, p ≤ n ∧ (∀ i : Int, 0 ≤ i → i < p → insB d x n f i = f i) ∧ insB d x n f p = x ∧ (∀ i : Int, p < i → i ≤ n → insB d x n f i = f (i - 1)) ∧ (p = 0 ∨ d (f (p - 1)) ≤ d x) ∧ (∀ i : Int, p ≤ i → i < n → d (f i) > d x) ∧ (∀ i : Int, n < i → insB d x n f i = f i) := by
  intro n
  induction n with
  | zero =>
    intro f
    refine ⟨0, Nat.le_refl _, fun i h0 h1 => by omega, ?_, fun i h0 h1 => by omega, Or.inl rfl, fun i h0 h1 => by omega, fun i h => ?_⟩
    · simp [insB, upd1]
    · simp only [insB, upd1]
      rw [if_neg (by omega)]
  | succ n ih =>
    intro f
    simp only [insB]
    by_cases hd : d (f n) > d x
    · rw [if_pos hd]
      obtain ⟨p, h1, h2, h3, h4, h5, h6, h7⟩ := ih (upd1 f (n + 1) (f n))
      refine ⟨p, by omega, fun i a b => ?_, h3, fun i a b => ?_, ?_, fun i a b => ?_, fun i a => ?_⟩
      · rw [h2 i a b]; unfold upd1; rw [if_neg (by omega)]
      · by_cases hi : i = (n : Int) + 1
        · subst hi
          rw [h7 _ (by omega)]
          unfold upd1
          rw [if_pos rfl]
          congr 1; omega
        · rw [h4 i a (by omega)]; unfold upd1; rw [if_neg (by omega)]
      · rcases h5 with h5 | h5
        · exact Or.inl h5
        · unfold upd1 at h5; rw [if_neg (by omega)] at h5; exact Or.inr h5
      · by_cases hi : i = (n : Int)
        · subst hi; exact hd
        · have := h6 i a (by omega)
          unfold upd1 at this; rw [if_neg (by omega)] at this; exact this
      · rw [h7 i (by omega)]; unfold upd1; rw [if_neg (by omega)]
    · rw [if_neg hd]
      refine ⟨n + 1, Nat.le_refl _, fun i a b => ?_, ?_, fun i a b => by omega, Or.inr ?_, fun i a b => by omega, fun i a => ?_⟩
      · unfold upd1; rw [if_neg (by omega)]
      · unfold upd1; rw [if_pos (by omega)]
      · rw [show ((n + 1 : Nat) : Int) - 1 = n by omega]; omega
      · unfold upd1; rw [if_neg (by omega)]
/-- before, by distance, then by number -/
def lx (V : Vw) (a b : Int) : Prop := dk V a < dk V b ∨ (dk V a = dk V b ∧ a < b)
def Srt (V : Vw) (k : Nat) (n : Nat) (f : Int → Int) : Prop :=
  (∀ i j : Int, 0 ≤ i → i < j → j < n → lx V (f i) (f j)) ∧ (∀ i : Int, 0 ≤ i → i < n → 0 ≤ f i ∧ f i < k ∧ isE V (f i) = true) ∧ ∀ j : Nat, j < k → isE V j = true → ∃ i : Nat, i < n ∧ f i = j
theorem srt_ins {V : Vw} {k n : Nat} {f : Int → Int} (h : Srt V k n f) (hk : isE V k = true) : Srt V (k + 1) (n + 1) (insB (dk V) k n f) := by
  obtain ⟨s1, s2, s3⟩ := h
  obtain ⟨p, h1, h2, h3, h4, h5, h6, h7⟩ := insB_spec (dk V) k n f
  refine ⟨fun i j hi hij hj => ?_, fun i hi hin => ?_, fun j hj hE => ?_⟩
  · by_cases hjp : j < p
    · rw [h2 i hi (by omega), h2 j (by omega) hjp]
      exact s1 i j hi hij (by omega)
    · by_cases hje : j = p
      · subst hje
        rw [h2 i hi (by omega), h3]
        have g := s2 i hi (by omega)
        have hp0 : ¬ p = 0 := by omega
        have h5' := h5.resolve_left hp0
        by_cases hil : i = (p : Int) - 1
        · subst hil
          unfold lx; omega
        · have := s1 i ((p : Int) - 1) hi (by omega) (by omega)
          unfold lx at this ⊢
          omega
      · rw [h4 j (by omega) (by omega)]
        by_cases hip : i < p
        · rw [h2 i hi hip]
          exact s1 i (j - 1) hi (by omega) (by omega)
        · by_cases hie : i = p
          · subst hie
            rw [h3]
            have := h6 (j - 1) (by omega) (by omega)
            exact Or.inl this
          · rw [h4 i (by omega) (by omega)]
            exact s1 (i - 1) (j - 1) (by omega) (by omega) (by omega)
  · by_cases hip : i < p
    · rw [h2 i hi hip]
      have := s2 i hi (by omega)
      exact ⟨this.1, by omega, this.2.2⟩
    · by_cases hie : i = p
      · subst hie
        rw [h3]
        exact ⟨by omega, by omega, hk⟩
      · rw [h4 i (by omega) (by omega)]
        have := s2 (i - 1) (by omega) (by omega)
        exact ⟨this.1, by omega, this.2.2⟩
  · by_cases hjk : j = k
    · subst hjk
      exact ⟨p, by omega, h3⟩
    · obtain ⟨i, a, b⟩ := s3 j (by omega) hE
      by_cases hip : i < p
      · exact ⟨i, by omega, by rw [h2 i (by omega) (by omega)]; exact b⟩
      · refine ⟨i + 1, by omega, ?_⟩
        rw [h4 _ (by omega) (by omega), ← b]
        congr 1; omega
theorem srtF_ok (V : Vw) : ∀ k : Nat, Srt V k (rk V k) (srtF V k) := by
  intro k
  induction k with
  | zero => exact ⟨fun i j hi hij hj => by simp [rk, ct] at hj; omega, fun i hi h => by simp [rk, ct] at h; omega, fun j h => by omega⟩
  | succ k ih =>
    simp only [srtF]
    by_cases hk : isE V k = true
    · have : rk V (k + 1) = rk V k + 1 := by simp only [rk, ct, hk, if_true]
      rw [if_pos hk, this]
      exact srt_ins ih hk
    · have : rk V (k + 1) = rk V k := by simp only [rk, ct, hk]; simp
      rw [if_neg hk, this]
      refine ⟨ih.1, fun i hi h => ?_, fun j hj hE => ?_⟩
      · have := ih.2.1 i hi h; exact ⟨this.1, by omega, this.2.2⟩
      · by_cases hjk : j = k
        · subst hjk; exact absurd hE hk
        · exact ih.2.2 j (by omega) hE
theorem so_ok (V : Vw) : Srt V 144 (nE V) (so V) := srtF_ok V 144
