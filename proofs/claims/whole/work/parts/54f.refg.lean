/-! ===== the reference: its way along the forest ===== -/
/-- the marks on x's side, seen from p -/
noncomputable def sd (V : Vw) (p x y : Int) : Bool := @decide (fP (forest V) y = fP (forest V) x ∧ (p = -1 ∨ fd V p y = fd V x y + 1)) (Classical.propDecidable _)
noncomputable def ssz (V : Vw) (p x : Int) : Nat := ct (sd V p x) 12
def hit (V : Vw) (p x t : Int) : Prop := jn V x t ∧ (p = -1 ∨ fd V p t = fd V x t + 1)
theorem sd_iff {V : Vw} {p x y : Int} : sd V p x y = true ↔ fP (forest V) y = fP (forest V) x ∧ (p = -1 ∨ fd V p y = fd V x y + 1) := by unfold sd; simp
theorem ct_sub {p q : Int → Bool} {c : Int} (hp : p c = true) (hq : q c = false) (h : ∀ i : Int, 0 ≤ i → i < 12 → q i = true → p i = true) : ∀ n : Nat, n ≤ 12 → ct q n ≤ ct p n ∧ (0 ≤ c → c < n → ct q n + 1 ≤ ct p n) := by
  intro n
  induction n with
  | zero => intro _; exact ⟨Nat.le_refl _, fun _ _ => by omega⟩
  | succ n ih =>
    intro hn12
    have ih := ih (by omega)
    simp only [ct]
    by_cases hn : (n : Int) = c
    · rw [hn, hp, hq]; simp only [Bool.false_eq_true, if_false, if_true]; omega
    · by_cases h1 : q n = true
      · rw [h1, h _ (by omega) (by omega) h1]; simp only [if_true]; omega
      · rw [if_neg h1]
        refine ⟨by split <;> omega, fun a b => ?_⟩
        have := ih.2 a (by omega)
        split <;> omega
/-- a mark p beside x, or none -/
def par (V : Vw) (p x : Int) : Prop := p = -1 ∨ (mark12 p ∧ p ≠ x ∧ fT (forest V) (pq p x) = true)
section Way71
variable {V : Vw} {p x y c t : Int}
theorem par_x (hG : Good V) (hx : mark12 x) (hp : par V p x) : sd V p x x = true := by
  have T := fd_TI hG
  refine sd_iff.mpr ⟨rfl, ?_⟩
  rcases hp with h | ⟨h1, h2, h3⟩
  · exact Or.inl h
  · right
    obtain ⟨g1, g2⟩ := T.2.2.1 p x h1 hx h2 h3
    have z := (T.1 x hx).1
    have nn := (T.2.2.2.1 p x h1 hx g1).1
    rcases g2 x hx g1.symm with g | g <;> omega
theorem kid_to (hG : Good V) (hx : mark12 x) (hc : mark12 c) (hcx : c ≠ x) (hT : fT (forest V) (pq x c) = true) (hy : mark12 y) (hj : fP (forest V) y = fP (forest V) c) : (fd V x y = fd V c y + 1 → fH (forest V) x y = c) ∧ (x ≠ y → fH (forest V) x y = c → fd V x y = fd V c y + 1) ∧ fP (forest V) c = fP (forest V) x ∧ (fd V x y = fd V c y + 1 ∨ fd V c y = fd V x y + 1) := by
  have T := fd_TI hG
  obtain ⟨g1, g2⟩ := T.2.2.1 x c hx hc (fun h => hcx h.symm) hT
  rcases g2 y hy (by rw [hj, g1]) with g | g
  · exact ⟨fun _ => g.2, fun _ _ => g.1, g1.symm, Or.inl g.1⟩
  · refine ⟨fun h => by omega, fun hxy h => ?_, g1.symm, Or.inr g.1⟩
    have g3 := T.2.1 x y hx hy (by rw [hj, g1]) hxy
    rw [h] at g3
    omega
theorem pq_par (h : par V p x) (hne : p ≠ -1) : mark12 p ∧ p ≠ x ∧ fT (forest V) (pq p x) = true := h.resolve_left hne
/-- a child's side lies within its parent's, without the parent -/
theorem kid_sd (hG : Good V) (hx : mark12 x) (hp : par V p x) (hc : mark12 c) (hcx : c ≠ x) (hcp : c ≠ p) (hT : fT (forest V) (pq x c) = true) (hy : mark12 y) (h : sd V x c y = true) : sd V p x y = true := by
  have h := sd_iff.mp h
  have x0 : x ≠ -1 := fun q => by unfold mark12 at hx; omega
  have k := kid_to hG hx hc hcx hT hy h.1
  have hd : fd V x y = fd V c y + 1 := h.2.resolve_left x0
  refine sd_iff.mpr ⟨by rw [h.1, k.2.2.1], ?_⟩
  rcases hp with hp | ⟨h1, h2, h3⟩
  · exact Or.inl hp
  · right
    have T := fd_TI hG
    obtain ⟨g1, g2⟩ := T.2.2.1 p x h1 hx h2 h3
    rcases g2 y hy (by rw [h.1, k.2.2.1, g1]) with g | g
    · exact g.1
    · exact absurd ((k.1 hd).symm.trans g.2) hcp
theorem kid_sz (hG : Good V) (hx : mark12 x) (hp : par V p x) (hc : mark12 c) (hcx : c ≠ x) (hcp : c ≠ p) (hT : fT (forest V) (pq x c) = true) : ssz V x c + 1 ≤ ssz V p x := by
  have T := fd_TI hG
  have x0 : x ≠ -1 := fun q => by unfold mark12 at hx; omega
  have hq : sd V x c x = false := by
    cases h : sd V x c x
    · rfl
    · have h := sd_iff.mp h
      have z := (T.1 x hx).1
      have nn := (T.2.2.2.1 c x hc hx h.1.symm).1
      have := h.2.resolve_left x0
      omega
  have a := ct_sub (p := sd V p x) (q := sd V x c) (c := x) (par_x hG hx hp) hq (fun i h0 h1 hi => kid_sd hG hx hp hc hcx hcp hT ⟨h0, h1⟩ hi) 12 (by omega)
  exact a.2 hx.1 hx.2
theorem ssz_pos (hG : Good V) (hx : mark12 x) (hp : par V p x) : 1 ≤ ssz V p x ∧ ssz V p x ≤ 12 := ⟨ct_pos hx.1 hx.2 (par_x hG hx hp), ct_le _ _⟩
/-- where the mark sought lies: at x, behind one child, or not on this side -/
theorem hit_x (hG : Good V) (hx : mark12 x) (hp : par V p x) : hit V p x x := by
  have h := sd_iff.mp (par_x hG hx hp)
  exact ⟨rfl, h.2⟩
theorem hit_kid (hG : Good V) (hx : mark12 x) (ht : mark12 t) (hp : par V p x) (hxt : x ≠ t) (h : hit V p x t) : fH (forest V) x t ≠ p ∧ mark12 (fH (forest V) x t) ∧ fH (forest V) x t ≠ x ∧ fT (forest V) (pq x (fH (forest V) x t)) = true ∧ hit V x (fH (forest V) x t) t := by
  have T := fd_TI hG
  have g := T.2.1 x t hx ht h.1 hxt
  have x0 : x ≠ -1 := fun q => by unfold mark12 at hx; omega
  refine ⟨fun q => ?_, g.1, g.2.1, g.2.2.2.1, by unfold jn; rw [g.2.2.1]; exact h.1, Or.inr g.2.2.2.2.1⟩
  rcases h.2 with h2 | h2
  · have := g.1.1; omega
  · rw [q] at g; omega
theorem kid_only (hG : Good V) (hx : mark12 x) (ht : mark12 t) (hp : par V p x) (hc : mark12 c) (hcx : c ≠ x) (hcp : c ≠ p) (hT : fT (forest V) (pq x c) = true) (h : hit V x c t) : fH (forest V) x t = c ∧ hit V p x t ∧ fd V x t = fd V c t + 1 := by
  have x0 : x ≠ -1 := fun q => by unfold mark12 at hx; omega
  have hd : fd V x t = fd V c t + 1 := h.2.resolve_left x0
  have s : sd V x c t = true := sd_iff.mpr ⟨h.1.symm, h.2⟩
  have s2 := sd_iff.mp (kid_sd hG hx hp hc hcx hcp hT ht s)
  exact ⟨(kid_to hG hx hc hcx hT ht h.1.symm).1 hd, ⟨s2.1.symm, s2.2⟩, hd⟩
theorem pth_succ (t x : Int) : ∀ i : Nat, pth V t x (i + 1) = pth V t (fH (forest V) x t) i := by
  intro i
  induction i with
  | zero => rfl
  | succ i ih => rw [show pth V t x (i + 1 + 1) = fH (forest V) (pth V t x (i + 1)) t from rfl, ih]; rfl
theorem kid_m (hG : Good V) (hx : mark12 x) (hc : mark12 c) (hcx : c ≠ x) (hT : fT (forest V) (pq x c) = true) : c < vm V := by
  have T := fd_TI hG
  have pg := pq_rg (a := x) (b := c) (m := 12) hx hc (by omega) (fun h => hcx h.symm)
  have e := isE_ab hG pg.1 pg.2.1 (T.2.2.2.2 _ hT)
  exact (pq_m hx hc e.1 e.2).2
end Way71
