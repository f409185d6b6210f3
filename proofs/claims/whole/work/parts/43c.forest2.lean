/-! ===== the next edge between two parts ===== -/
def cand (V : Vw) (P : Int → Int) (k : Int) : Bool := isE V k && !decide (P (k / 12) = P (k % 12))
def nx (V : Vw) (P : Int → Int) : Nat → Int
  | 0 => -1
  | k + 1 => if cand V P k = true ∧ (nx V P k = -1 ∨ dk V k < dk V (nx V P k)) then k else nx V P k
theorem nx_spec (V : Vw) (P : Int → Int) : ∀ n : Nat, (nx V P n = -1 ∧ ∀ j : Int, 0 ≤ j → j < n → cand V P j = false) ∨ (0 ≤ nx V P n ∧ nx V P n < n ∧ cand V P (nx V P n) = true ∧ ∀ j : Int, 0 ≤ j → j < n → cand V P j = true → j = nx V P n ∨ lx V (nx V P n) j) := by
  intro n
  induction n with
  | zero => left; exact ⟨rfl, fun j h0 h1 => by omega⟩
  | succ n ih =>
    simp only [nx]
    by_cases hc : cand V P n = true
    · rcases ih with ⟨h1, h2⟩ | ⟨h1, h2, h3, h4⟩
      · rw [if_pos ⟨hc, Or.inl h1⟩]
        right
        refine ⟨by omega, by omega, hc, fun j h0 hj hcj => ?_⟩
        by_cases hjn : j = n
        · exact Or.inl hjn
        · rw [h2 j h0 (by omega)] at hcj; exact absurd hcj (by decide)
      · by_cases hd : dk V n < dk V (nx V P n)
        · rw [if_pos ⟨hc, Or.inr hd⟩]
          right
          refine ⟨by omega, by omega, hc, fun j h0 hj hcj => ?_⟩
          by_cases hjn : j = n
          · exact Or.inl hjn
          · right
            rcases h4 j h0 (by omega) hcj with h5 | h5
            · subst h5; exact Or.inl hd
            · unfold lx at h5 ⊢; omega
        · rw [if_neg (by rintro ⟨-, h | h⟩ <;> omega)]
          right
          refine ⟨h1, by omega, h3, fun j h0 hj hcj => ?_⟩
          by_cases hjn : j = n
          · subst hjn
            right; unfold lx; omega
          · exact h4 j h0 (by omega) hcj
    · rw [if_neg (fun h => hc h.1)]
      rcases ih with ⟨h1, h2⟩ | ⟨h1, h2, h3, h4⟩
      · left
        refine ⟨h1, fun j h0 hj => ?_⟩
        by_cases hjn : j = n
        · subst hjn; exact Bool.eq_false_iff.mpr hc
        · exact h2 j h0 (by omega)
      · right
        refine ⟨h1, by omega, h3, fun j h0 hj hcj => ?_⟩
        by_cases hjn : j = n
        · subst hjn; exact absurd hcj hc
        · exact h4 j h0 (by omega) hcj
theorem fP_take (V : Vw) (k : Int) (F : Fo) (x : Int) : fP (take V k F) x = if fP F x = fP F (k / 12) ∨ fP F x = fP F (k % 12) then mn2 (fP F (k / 12)) (fP F (k % 12)) else fP F x := rfl
theorem stp_join {V : Vw} {k : Int} {F : Fo} (x y : Int) (h : fP F x = fP F y) : fP (stp V k F) x = fP (stp V k F) y := by
  unfold stp
  split
  · exact h
  · simp only [fP_take, h]
theorem stp_self {V : Vw} {k : Int} {F : Fo} : fP (stp V k F) (k / 12) = fP (stp V k F) (k % 12) := by
  unfold stp
  split
  · rename_i h; exact h
  · simp only [fP_take, true_or, or_true, if_true]
theorem gro_join (V : Vw) (i : Nat) : ∀ t : Nat, t < i → fP (gro V i) (so V t / 12) = fP (gro V i) (so V t % 12) := by
  induction i with
  | zero => intro t h; omega
  | succ i ih =>
    intro t ht
    simp only [gro]
    by_cases h : t = i
    · subst h; exact stp_self
    · exact stp_join _ _ (ih t (by omega))
/-- where no edge is left between two parts, nothing more is taken -/
theorem gro_end {V : Vw} {i : Nat} (hi : i ≤ nE V) (h : nx V (fP (gro V i)) 144 = -1) : gro V i = forest V := by
  have hall : ∀ j : Int, 0 ≤ j → j < 144 → cand V (fP (gro V i)) j = false := by
    rcases nx_spec V (fP (gro V i)) 144 with ⟨_, h2⟩ | ⟨h2, _⟩
    · exact h2
    · omega
  have key : ∀ d : Nat, i + d ≤ nE V → gro V (i + d) = gro V i := by
    intro d
    induction d with
    | zero => intro _; rfl
    | succ d ih =>
      intro hd
      have h1 := ih (by omega)
      show stp V (so V (i + d : Nat)) (gro V (i + d)) = gro V i
      rw [h1]
      have h2 := (so_ok V).2.1 ((i + d : Nat) : Int) (by omega) (by omega)
      have h3 := hall _ h2.1 (by omega)
      unfold cand at h3
      rw [h2.2.2] at h3
      unfold stp
      rw [if_pos]
      simpa using h3
  have := key (nE V - i) (by omega)
  rw [show i + (nE V - i) = nE V by omega] at this
  exact this.symm
theorem gro_next {V : Vw} {i : Nat} (hi : i ≤ nE V) (h : nx V (fP (gro V i)) 144 ≠ -1) : ∃ j : Nat, i ≤ j ∧ j < nE V ∧ so V j = nx V (fP (gro V i)) 144 ∧ gro V j = gro V i ∧ gro V (j + 1) = take V (nx V (fP (gro V i)) 144) (gro V i) := by
  obtain ⟨h1, h2, h3, h4⟩ : 0 ≤ nx V (fP (gro V i)) 144 ∧ nx V (fP (gro V i)) 144 < 144 ∧ cand V (fP (gro V i)) (nx V (fP (gro V i)) 144) = true ∧ ∀ j : Int, 0 ≤ j → j < 144 → cand V (fP (gro V i)) j = true → j = nx V (fP (gro V i)) 144 ∨ lx V (nx V (fP (gro V i)) 144) j := by
    rcases nx_spec V (fP (gro V i)) 144 with ⟨h1, _⟩ | h1
    · exact absurd h1 h
    · exact h1
  generalize nx V (fP (gro V i)) 144 = e at *
  have hc : isE V e = true ∧ ¬ fP (gro V i) (e / 12) = fP (gro V i) (e % 12) := by
    unfold cand at h3
    simpa using h3
  obtain ⟨j, hj, hje⟩ := (so_ok V).2.2 e.toNat (by omega) (by rw [Int.toNat_of_nonneg h1]; exact hc.1)
  rw [Int.toNat_of_nonneg h1] at hje
  have hij : i ≤ j := by
    rcases Nat.lt_or_ge j i with hlt | hge
    · exact absurd (by rw [← hje]; exact gro_join V i j hlt) hc.2
    · exact hge
  have key : ∀ d : Nat, i + d ≤ j → gro V (i + d) = gro V i := by
    intro d
    induction d with
    | zero => intro _; rfl
    | succ d ih =>
      intro hd
      have g1 := ih (by omega)
      show stp V (so V (i + d : Nat)) (gro V (i + d)) = gro V i
      rw [g1]
      have g2 := (so_ok V).2.1 ((i + d : Nat) : Int) (by omega) (by omega)
      unfold stp
      rw [if_pos]
      by_cases hn : fP (gro V i) (so V ((i + d : Nat) : Int) / 12) = fP (gro V i) (so V ((i + d : Nat) : Int) % 12)
      · exact hn
      · exfalso
        have hcd : cand V (fP (gro V i)) (so V ((i + d : Nat) : Int)) = true := by
          unfold cand
          rw [g2.2.2, decide_eq_false hn]
          rfl
        have hlt := (so_ok V).1 ((i + d : Nat) : Int) (j : Int) (by omega) (by omega) (by omega)
        rw [hje] at hlt
        rcases h4 _ g2.1 (by omega) hcd with h5 | h5
        · rw [h5] at hlt; unfold lx at hlt; omega
        · unfold lx at hlt h5; omega
  have hgj : gro V j = gro V i := by
    have := key (j - i) (by omega)
    rwa [show i + (j - i) = j by omega] at this
  refine ⟨j, hij, hj, hje, hgj, ?_⟩
  show stp V (so V j) (gro V j) = _
  rw [hgj, hje]
  unfold stp
  rw [if_neg hc.2]
/-! ===== the forest is a forest: the distance along it ===== -/
def psz (F : Fo) (p : Int) : Nat := ct (fun y => decide (fP F y = p)) 12
def mark12 (x : Int) : Prop := 0 ≤ x ∧ x < 12
def TI (V : Vw) (F : Fo) (d : Int → Int → Int) : Prop :=
  (∀ x : Int, mark12 x → d x x = 0 ∧ fC F x x = 0 ∧ mark12 (fP F x)) ∧
  (∀ x t : Int, mark12 x → mark12 t → fP F x = fP F t → x ≠ t → mark12 (fH F x t) ∧ fH F x t ≠ x ∧ fP F (fH F x t) = fP F x ∧ fT F (pq x (fH F x t)) = true ∧ d x t = d (fH F x t) t + 1 ∧ fC F x t = rf V x (fH F x t) + fC F (fH F x t) t) ∧
  (∀ u v : Int, mark12 u → mark12 v → u ≠ v → fT F (pq u v) = true → fP F u = fP F v ∧ ∀ t : Int, mark12 t → fP F t = fP F u → (d u t = d v t + 1 ∧ fH F u t = v) ∨ (d v t = d u t + 1 ∧ fH F v t = u)) ∧
  (∀ x t : Int, mark12 x → mark12 t → fP F x = fP F t → 0 ≤ d x t ∧ d x t + 1 ≤ psz F (fP F x) ∧ fC F x t = -fC F t x) ∧
  (∀ k : Int, fT F k = true → isE V k = true)
theorem ct_nil {p : Int → Bool} {n : Nat} (h : ∀ i : Int, 0 ≤ i → i < n → p i = false) : ct p n = 0 := by
  induction n with
  | zero => rfl
  | succ n ih => simp only [ct]; rw [ih (fun i a b => h i a (by omega)), h n (by omega) (by omega)]; rfl
theorem ct_pos {p : Int → Bool} {n : Nat} {x : Int} (h0 : 0 ≤ x) (h1 : x < n) (hx : p x = true) : 1 ≤ ct p n := by
  have h2 := ct_lt p (a := x.toNat) (b := n) (by omega) (by rw [Int.toNat_of_nonneg h0]; exact hx)
  omega
theorem ct_add {p q r : Int → Bool} (n : Nat) (h : ∀ i : Int, 0 ≤ i → i < n → r i = (p i || q i) ∧ (p i && q i) = false) : ct r n = ct p n + ct q n := by
  induction n with
  | zero => rfl
  | succ n ih =>
    have h1 := h n (by omega) (by omega)
    simp only [ct]
    rw [ih (fun i a b => h i a (by omega)), h1.1]
    cases hp : p n <;> cases hq : q n <;> simp_all <;> omega
theorem fo0_TI (V : Vw) : TI V fo0 (fun _ _ => 0) := by
  refine ⟨fun x hx => ⟨rfl, rfl, hx⟩, fun x t _ _ h hne => absurd h hne, fun u v _ _ _ h => ?_, fun x t hx ht h => ⟨Int.le_refl _, ?_, rfl⟩, fun k h => ?_⟩
  · exact absurd h (by simp [fT, fo0])
  · have : 1 ≤ psz fo0 (fP fo0 x) := ct_pos hx.1 hx.2 (by simp)
    show (0 : Int) + 1 ≤ _
    omega
  · exact absurd h (by simp [fT, fo0])
