/-! ===== the parse's model: statements ===== -/
abbrev Er : Type := Nat × Nat
abbrev Ps : Type := Vw × Hw × (Nat → Int) × Tk
def nxt (l : List Int) (t : Tk) : Tk := tk l (tE t)
def numT (l : List Int) (t : Tk) (sg : Bool) : Tk := if sg = true ∧ tK t = 13 then nxt l t else t
def numV (l : List Int) (t : Tk) (sg : Bool) : Int := if sg = true ∧ tK t = 13 then -tV (nxt l t) else tV t
def numb (l : List Int) (t : Tk) (sg : Bool) (lo hi : Int) : Er ⊕ (Int × Tk) :=
  if tK (numT l t sg) = 12 then (if lo ≤ numV l t sg ∧ numV l t sg ≤ hi then .inr (numV l t sg, nxt l (numT l t sg)) else .inl (2, tS (numT l t sg))) else .inl (1, tS (numT l t sg))
def markN (V : Vw) (t : Tk) (but : Int) : Er ⊕ Int :=
  if tK t = 11 then (if fnN V (tN t) (vm V) = -1 then .inl (4, tS t) else if fnN V (tN t) (vm V) = but then .inl (3, tS t) else .inr (fnN V (tN t) (vm V))) else .inl (1, tS t)
def andT {α β : Type} (x : Er ⊕ α) (f : α → Er ⊕ β) : Er ⊕ β := match x with
  | .inl e => .inl e
  | .inr a => f a
def rdMark (l : List Int) (P : Ps) : Er ⊕ Ps :=
  if vm P.1 < 12 then
    (if tK (nxt l P.2.2.2) = 11 then
      (if fnN P.1 (tN (nxt l P.2.2.2)) (vm P.1) = -1 then
        (if tK (nxt l (nxt l P.2.2.2)) = 12 then
          (if fnd (vK P.1 0) (tV (nxt l (nxt l P.2.2.2))) (vm P.1) = -1 then
            (if tK (nxt l (nxt l (nxt l P.2.2.2))) = 1 then
              andT (numb l (nxt l (nxt l (nxt l (nxt l P.2.2.2)))) true (-99999) 99999) fun x => .inr (adM P.1 (tN (nxt l P.2.2.2)) (tV (nxt l (nxt l P.2.2.2))), bnH P.2.1 (vm P.1) x.1, P.2.2.1, x.2)
            else .inr (adM P.1 (tN (nxt l P.2.2.2)) (tV (nxt l (nxt l P.2.2.2))), P.2.1, P.2.2.1, nxt l (nxt l (nxt l P.2.2.2))))
          else .inl (3, tS (nxt l (nxt l P.2.2.2))))
        else .inl (1, tS (nxt l (nxt l P.2.2.2))))
      else .inl (3, tS (nxt l P.2.2.2)))
    else .inl (1, tS (nxt l P.2.2.2)))
  else .inl (5, tS P.2.2.2)
def rdSight (l : List Int) (P : Ps) : Er ⊕ Ps :=
  if vn P.1 < 40 then
    andT (markN P.1 (nxt l P.2.2.2) (-1)) fun a =>
    andT (markN P.1 (nxt l (nxt l P.2.2.2)) a) fun b =>
    (if tK (nxt l (nxt l (nxt l P.2.2.2))) = 3 ∨ tK (nxt l (nxt l (nxt l P.2.2.2))) = 4 then
      andT (numb l (nxt l (nxt l (nxt l (nxt l P.2.2.2)))) true (-9999) 9999) fun x =>
      (if tK x.2 = 5 then
        andT (numb l (nxt l x.2) true (-40) 60) fun y => .inr (adV P.1 a b (if tK (nxt l (nxt l (nxt l P.2.2.2))) = 3 then 0 else 1) x.1 y.1, P.2.1, P.2.2.1, y.2)
      else .inr (adV P.1 a b (if tK (nxt l (nxt l (nxt l P.2.2.2))) = 3 then 0 else 1) x.1 20, P.2.1, P.2.2.1, x.2))
    else .inl (1, tS (nxt l (nxt l (nxt l P.2.2.2)))))
  else .inl (5, tS P.2.2.2)
def onc (o : Nat → Int) (w : Nat) : Nat → Int := fun i => if i = w then 1 else o i
def rdSet (l : List Int) (P : Ps) (w : Nat) (sg : Bool) : Er ⊕ Ps :=
  if P.2.2.1 w = 1 then .inl (3, tS P.2.2.2)
  else andT (numb l (nxt l P.2.2.2) sg (seL w) (seU w)) fun x => .inr (stS P.1 w x.1, P.2.1, onc P.2.2.1 w, x.2)
def rdErr (l : List Int) (P : Ps) : Er ⊕ Ps :=
  if P.2.2.1 4 = 1 then .inl (3, tS P.2.2.2)
  else andT (numb l (nxt l P.2.2.2) true (-999) 999) fun x => .inr (teV P.1 x.1, P.2.1, onc P.2.2.1 4, x.2)
def stm (l : List Int) (P : Ps) : Er ⊕ Ps :=
  if tK P.2.2.2 = 0 then rdMark l P else if tK P.2.2.2 = 2 then rdSight l P else if tK P.2.2.2 = 6 then rdSet l P 0 false else if tK P.2.2.2 = 7 then rdErr l P
  else if tK P.2.2.2 = 8 then rdSet l P 1 false else if tK P.2.2.2 = 9 then rdSet l P 2 true else if tK P.2.2.2 = 10 then rdSet l P 3 false else .inl (1, tS P.2.2.2)
def sts (l : List Int) (P : Ps) : Er ⊕ Ps :=
  andT (stm l P) fun P1 => if tK P1.2.2.2 = 14 then .inr (P1.1, P1.2.1, P1.2.2.1, nxt l P1.2.2.2) else .inl (1, tS P1.2.2.2)
def pa (l : List Int) : Nat → Ps → Er ⊕ Ps
  | 0, P => .inr P
  | n + 1, P => if tK P.2.2.2 = 15 then .inr P else andT (sts l P) (pa l n)
def oV : Vw := mkV 0 0 (fun i => if i = 0 then 1000 else if i = 3 then 10 else 0) (fun _ _ => 0) (fun _ _ => 0) (fun _ => [])
def oH : Hw := (fun _ => 0, fun _ => 0, fun _ => 0)
def P0 (l : List Int) : Ps := (oV, oH, fun _ => 0, tk l 0)
def prs (l : List Int) : Er ⊕ Ps := pa l 901 (P0 l)
/-! what holds behind each statement -/
def okT (l : List Int) (t : Tk) : Prop := ∃ p : Nat, p ≤ l.length ∧ t = tk l p
def GP (l : List Int) (P : Ps) : Prop := Good P.1 ∧ GoodH (vm P.1) P.2.1 ∧ HB (vm P.1) P.2.1 99999 ∧ (∀ i, P.2.2.1 i = 0 ∨ P.2.2.1 i = 1) ∧ okT l P.2.2.2
theorem okT.f {l : List Int} {t : Tk} (h : okT l t) : tS t ≤ tE t ∧ tE t ≤ l.length ∧ tK t ≤ 16 ∧ (tK t ≠ 15 → tS t < tE t) ∧ (tK t = 11 → okName (tN t)) ∧ (tK t = 12 → 0 ≤ tV t ∧ tV t ≤ 99999) := by
  obtain ⟨p, hp, rfl⟩ := h
  exact (tk_ok l p hp).2
theorem okT.nxt {l : List Int} {t : Tk} (h : okT l t) : okT l (nxt l t) := ⟨tE t, h.f.2.1, rfl⟩
theorem nxt_ge {l : List Int} {t : Tk} (h : okT l t) : tE t ≤ tS (nxt l t) := (tk_ok l (tE t) h.f.2.1).1
theorem numT_ok {l : List Int} {t : Tk} (h : okT l t) (sg : Bool) : okT l (numT l t sg) ∧ tS t ≤ tS (numT l t sg) := by
  unfold numT
  split
  · have := h.f; exact ⟨h.nxt, by have := nxt_ge h; omega⟩
  · exact ⟨h, Nat.le_refl _⟩
theorem numb_ok {l : List Int} {t : Tk} {sg : Bool} {lo hi : Int} {x : Int × Tk} (h : okT l t) (hx : numb l t sg lo hi = .inr x) : okT l x.2 ∧ tS t < tS x.2 ∧ lo ≤ x.1 ∧ x.1 ≤ hi ∧ tK (numT l t sg) = 12 := by
  have n := numT_ok h sg
  unfold numb at hx
  split at hx
  · rename_i h1
    split at hx
    · rename_i h2
      injection hx with hx
      subst hx
      have g := n.1.f
      have := nxt_ge n.1
      exact ⟨n.1.nxt, by show tS t < tS (nxt l _); have := g.2.2.2.1 (by omega); omega, h2.1, h2.2, h1⟩
    · cases hx
  · cases hx
theorem markN_ok {V : Vw} {t : Tk} {but k : Int} (hk : markN V t but = .inr k) : tK t = 11 ∧ 0 ≤ k ∧ k < vm V ∧ k ≠ but ∧ fnN V (tN t) (vm V) = k := by
  unfold markN at hk
  split at hk
  · rename_i h1
    split at hk
    · cases hk
    · rename_i h2
      split at hk
      · cases hk
      · rename_i h3
        injection hk with hk
        have := fnN_rg V (tN t) (vm V)
        refine ⟨h1, ?_, ?_, ?_, hk⟩ <;> omega
  · cases hk
theorem andT_inr {α β : Type} {x : Er ⊕ α} {f : α → Er ⊕ β} {b : β} (h : andT x f = .inr b) : ∃ a, x = .inr a ∧ f a = .inr b := by
  cases x with
  | inl e => cases h
  | inr a => exact ⟨a, rfl, h⟩
section Prs60
variable {V : Vw} {H : Hw} {a b c d t v p : Int} {w : List Nat}
theorem fnd_no {f : Int → Int} {v : Int} : ∀ {n : Nat}, fnd f v n = -1 → ∀ k : Int, 0 ≤ k → k < n → f k ≠ v := by
  intro n
  induction n with
  | zero => intro _ k h0 h1; omega
  | succ n ih =>
    intro h k h0 h1
    simp only [fnd] at h
    by_cases h2 : fnd f v n = -1
    · rw [if_neg (by omega)] at h
      by_cases h3 : f n = v
      · rw [if_pos h3] at h; omega
      · by_cases h4 : k = n
        · rw [h4]; exact h3
        · exact ih h2 k h0 (by omega)
    · rw [if_pos h2] at h; exact absurd h h2
theorem Good_adM (hG : Good V) (hm : vm V < 12) (hw : okName w) (hn : fnN V w (vm V) = -1) (hp : 0 ≤ p ∧ p ≤ 99999) (hq : fnd (vK V 0) p (vm V) = -1) : Good (adM V w p) := by
  obtain ⟨g0, g1, g2, g3, g4, g5, g6, g7, g8, g9, g10, g11⟩ := hG
  have nn := fnN_no hn
  have np := fnd_no hq
  have eN : ∀ k, vN (adM V w p) k = if k = vm V then w else vN V k := fun _ => rfl
  have eK : ∀ k, vK (adM V w p) 0 k = if k = vm V then p else vK V 0 k := fun _ => rfl
  have em : vm (adM V w p) = vm V + 1 := rfl
  refine ⟨by rw [em]; omega, g1, g2, g3, g4, g5, g6, g7, trivial, fun k h0 h1 => ?_, fun k j h0 h1 h2 h3 hne => ?_, fun s h0 h1 => ?_⟩
  · rw [em] at h1
    rw [eN, eK]
    by_cases h : k = vm V
    · rw [if_pos h, if_pos h]; exact ⟨hp, hw⟩
    · rw [if_neg h, if_neg h]; exact g9 k h0 (by omega)
  · rw [em] at h1 h3
    rw [eN, eK, eN, eK]
    by_cases h : k = vm V
    · rw [if_pos h, if_pos h, if_neg (by omega), if_neg (by omega)]
      exact ⟨fun q => np j h2 (by omega) q.symm, fun q => nn j h2 (by omega) q.symm⟩
    · rw [if_neg h, if_neg h]
      by_cases h' : j = vm V
      · rw [if_pos h', if_pos h']
        exact ⟨fun q => np k h0 (by omega) q, fun q => nn k h0 (by omega) q⟩
      · rw [if_neg h', if_neg h']
        exact g10 k j h0 (by omega) h2 (by omega) hne
  · have g := g11 s h0 h1
    rw [em]
    show (0 ≤ vG V 0 s ∧ vG V 0 s < ((vm V + 1 : Nat) : Int)) ∧ (0 ≤ vG V 1 s ∧ vG V 1 s < ((vm V + 1 : Nat) : Int)) ∧ _
    exact ⟨⟨g.1.1, by omega⟩, ⟨g.2.1.1, by omega⟩, g.2.2⟩
theorem Good_adV (hG : Good V) (hn : vn V < 40) (ha : 0 ≤ a ∧ a < vm V) (hb : 0 ≤ b ∧ b < vm V) (hab : a ≠ b) (hc : c = 0 ∨ c = 1) (hd : -9999 ≤ d ∧ d ≤ 9999) (ht : -40 ≤ t ∧ t ≤ 60) : Good (adV V a b c d t) := by
  obtain ⟨g0, g1, g2, g3, g4, g5, g6, g7, g8, g9, g10, g11⟩ := hG
  refine ⟨g0, by show vn V + 1 ≤ 40; omega, g2, g3, g4, g5, g6, g7, trivial, g9, g10, fun s h0 h1 => ?_⟩
  have h1 : s < ((vn V + 1 : Nat) : Int) := h1
  have e : ∀ f, vG (adV V a b c d t) f s = if s = vn V then (if f = 0 then a else if f = 1 then b else if f = 2 then c else if f = 3 then d else if f = 4 then t else 0) else vG V f s := fun _ => rfl
  rw [e 0, e 1, e 2, e 3, e 4, e 5]
  by_cases h : s = vn V
  · simp only [h, if_true]
    exact ⟨ha, hb, hab, hc, hd, ht, Or.inl rfl⟩
  · simp only [h, if_false]
    exact g11 s h0 (by omega)
theorem Good_set {w : Nat} (hG : Good V) (hw : w < 4) (hx : seL w ≤ v ∧ v ≤ seU w) : Good (stS V w v) := by
  obtain ⟨g0, g1, g2, g3, g4, g5, g6, g7, g8, g9, g10, g11⟩ := hG
  have e : ∀ i, vS (stS V w v) i = if i = w then v else vS V i := fun _ => rfl
  unfold seL seU at hx
  refine ⟨g0, g1, ?_, ?_, ?_, ?_, ?_, ?_, trivial, g9, g10, g11⟩
  all_goals simp only [e]
  all_goals (rcases (show w = 0 ∨ w = 1 ∨ w = 2 ∨ w = 3 by omega) with rfl | rfl | rfl | rfl)
  all_goals (simp at hx ⊢; try omega)
theorem Good_te (hG : Good V) (hx : -999 ≤ v ∧ v ≤ 999) : Good (teV V v) := by
  obtain ⟨g0, g1, g2, g3, g4, g5, g6, g7, g8, g9, g10, g11⟩ := hG
  exact ⟨g0, g1, g2, g3, g4, g5, Or.inr rfl, fun _ => hx, trivial, g9, g10, g11⟩
theorem GoodH_bn {m : Nat} (h : GoodH m H) {k : Nat} (hk : k < m) : GoodH m (bnH H k v) := by
  intro j h0 h1
  have t := h j h0 h1
  have e1 : hb (bnH H k v) j = if j = k then 1 else hb H j := rfl
  have e2 : hh (bnH H k v) j = if j = k then 1 else hh H j := rfl
  rw [e1, e2]
  by_cases hj : j = k
  · rw [if_pos hj, if_pos hj]
    exact ⟨Or.inr rfl, Or.inr rfl, fun _ => rfl, fun q => by omega⟩
  · rw [if_neg hj, if_neg hj]; exact t
theorem GoodH_up {m m' : Nat} (h : GoodH m H) (hm : m ≤ m') : GoodH m' H := fun k h0 h1 => by
  have t := h k h0 h1
  exact ⟨t.1, t.2.1, t.2.2.1, fun q => t.2.2.2 (by omega)⟩
theorem HB_bn {m : Nat} {M : Int} (h : HB m H M) {k : Int} (hv1 : -M ≤ v ∧ v ≤ M) : HB m (bnH H k v) M := by
  intro j h0 h1 h2
  have e1 : hv (bnH H k v) j = if j = k then v else hv H j := rfl
  have e2 : hh (bnH H k v) j = if j = k then 1 else hh H j := rfl
  rw [e2] at h2
  rw [e1]
  by_cases hj : j = k
  · rw [if_pos hj]; exact hv1
  · rw [if_neg hj]; rw [if_neg hj] at h2; exact h j h0 h1 h2
theorem HB_add {m : Nat} {M : Int} (hGH : GoodH m H) (hm : m < 12) (h : HB m H M) : HB (m + 1) H M := by
  intro j h0 h1 h2
  by_cases hj : j = m
  · have := (hGH j h0 (by omega)).2.2.2 (by omega)
    omega
  · exact h j h0 (by omega) h2
end Prs60
theorem ite_inr {α : Type} {c : Prop} [Decidable c] {e : Er} {x : Er ⊕ α} {y : α} (h : (if c then x else .inl e) = .inr y) : c ∧ x = .inr y := by
  split at h
  · rename_i hc; exact ⟨hc, h⟩
  · cases h
section Prs60b
variable {l : List Int} {P P1 : Ps}
theorem rdMark_ok (hP : GP l P) (h : rdMark l P = .inr P1) : GP l P1 ∧ tS P.2.2.2 < tS P1.2.2.2 := by
  obtain ⟨hG, hGH, hHB, ho, hT⟩ := hP
  unfold rdMark at h
  obtain ⟨h1, h⟩ := ite_inr h
  obtain ⟨h2, h⟩ := ite_inr h
  obtain ⟨h3, h⟩ := ite_inr h
  obtain ⟨h4, h⟩ := ite_inr h
  obtain ⟨h5, h⟩ := ite_inr h
  have t1 := hT.nxt
  have t2 := t1.nxt
  have t3 := t2.nxt
  have s1 := nxt_ge hT
  have s2 := nxt_ge t1
  have s3 := nxt_ge t2
  have f1 := t1.f
  have f2 := t2.f
  have f0 := hT.f
  have G1 := Good_adM hG h1 (f1.2.2.2.2.1 h2) h3 (f2.2.2.2.2.2 h4) h5
  split at h
  · rename_i h6
    obtain ⟨x, hx, h⟩ := andT_inr h
    injection h with h
    subst h
    have n := numb_ok t3.nxt hx
    have s4 := nxt_ge t3
    have f3 := t3.f
    refine ⟨⟨G1, GoodH_bn (GoodH_up hGH (Nat.le_succ _)) (Nat.lt_succ_self _), HB_bn (HB_add hGH h1 hHB) ⟨n.2.2.1, n.2.2.2.1⟩, ho, n.1⟩, ?_⟩
    have := n.2.1
    show tS P.2.2.2 < tS x.2
    have := f1.2.2.2.1 (by omega)
    omega
  · injection h with h
    subst h
    refine ⟨⟨G1, GoodH_up hGH (Nat.le_succ _), HB_add hGH h1 hHB, ho, t3⟩, ?_⟩
    show tS P.2.2.2 < tS (nxt l (nxt l (nxt l P.2.2.2)))
    have := f1.2.2.2.1 (by omega)
    omega
theorem rdSight_ok (hP : GP l P) (h : rdSight l P = .inr P1) : GP l P1 ∧ tS P.2.2.2 < tS P1.2.2.2 := by
  obtain ⟨hG, hGH, hHB, ho, hT⟩ := hP
  unfold rdSight at h
  obtain ⟨h1, h⟩ := ite_inr h
  obtain ⟨a, ha, h⟩ := andT_inr h
  obtain ⟨b, hb, h⟩ := andT_inr h
  obtain ⟨h2, h⟩ := ite_inr h
  obtain ⟨x, hx, h⟩ := andT_inr h
  have t1 := hT.nxt
  have t2 := t1.nxt
  have t3 := t2.nxt
  have s1 := nxt_ge hT
  have s2 := nxt_ge t1
  have s3 := nxt_ge t2
  have s4 := nxt_ge t3
  have f0 := hT.f
  have f1 := t1.f
  have f2 := t2.f
  have f3 := t3.f
  have ka := markN_ok ha
  have kb := markN_ok hb
  have n := numb_ok t3.nxt hx
  have z := f1.2.2.2.1 (by omega)
  have en : (if tK (nxt l (nxt l (nxt l P.2.2.2))) = 3 then (0 : Int) else 1) = 0 ∨ (if tK (nxt l (nxt l (nxt l P.2.2.2))) = 3 then (0 : Int) else 1) = 1 := by split <;> simp
  split at h
  · obtain ⟨y, hy, h⟩ := andT_inr h
    injection h with h
    subst h
    have m := numb_ok n.1.nxt hy
    have s5 := nxt_ge n.1
    have f4 := n.1.f
    refine ⟨⟨Good_adV hG h1 ⟨ka.2.1, ka.2.2.1⟩ ⟨kb.2.1, kb.2.2.1⟩ (fun q => kb.2.2.2.1 q.symm) en ⟨n.2.2.1, n.2.2.2.1⟩ ⟨m.2.2.1, m.2.2.2.1⟩, hGH, hHB, ho, m.1⟩, ?_⟩
    show tS P.2.2.2 < tS y.2
    have := n.2.1
    have := m.2.1
    omega
  · injection h with h
    subst h
    refine ⟨⟨Good_adV hG h1 ⟨ka.2.1, ka.2.2.1⟩ ⟨kb.2.1, kb.2.2.1⟩ (fun q => kb.2.2.2.1 q.symm) en ⟨n.2.2.1, n.2.2.2.1⟩ (by omega), hGH, hHB, ho, n.1⟩, ?_⟩
    show tS P.2.2.2 < tS x.2
    have := n.2.1
    omega
theorem onc_01 {o : Nat → Int} (ho : ∀ i, o i = 0 ∨ o i = 1) (w : Nat) : ∀ i, onc o w i = 0 ∨ onc o w i = 1 := by
  intro i
  unfold onc
  split
  · exact Or.inr rfl
  · exact ho i
theorem rdSet_ok {w : Nat} {sg : Bool} (hw : w < 4) (hP : GP l P) (hk : tK P.2.2.2 ≠ 15) (h : rdSet l P w sg = .inr P1) : GP l P1 ∧ tS P.2.2.2 < tS P1.2.2.2 := by
  obtain ⟨hG, hGH, hHB, ho, hT⟩ := hP
  unfold rdSet at h
  split at h
  · cases h
  · obtain ⟨x, hx, h⟩ := andT_inr h
    injection h with h
    subst h
    have n := numb_ok hT.nxt hx
    have s1 := nxt_ge hT
    have f := hT.f
    refine ⟨⟨Good_set hG hw ⟨n.2.2.1, n.2.2.2.1⟩, hGH, hHB, onc_01 ho w, n.1⟩, ?_⟩
    show tS P.2.2.2 < tS x.2
    have := n.2.1
    have := f.2.2.2.1 hk
    omega
theorem rdErr_ok (hP : GP l P) (hk : tK P.2.2.2 ≠ 15) (h : rdErr l P = .inr P1) : GP l P1 ∧ tS P.2.2.2 < tS P1.2.2.2 := by
  obtain ⟨hG, hGH, hHB, ho, hT⟩ := hP
  unfold rdErr at h
  split at h
  · cases h
  · obtain ⟨x, hx, h⟩ := andT_inr h
    injection h with h
    subst h
    have n := numb_ok hT.nxt hx
    have s1 := nxt_ge hT
    have f := hT.f
    refine ⟨⟨Good_te hG ⟨n.2.2.1, n.2.2.2.1⟩, hGH, hHB, onc_01 ho 4, n.1⟩, ?_⟩
    show tS P.2.2.2 < tS x.2
    have := n.2.1
    have := f.2.2.2.1 hk
    omega
theorem stm_ok (hP : GP l P) (h : stm l P = .inr P1) : GP l P1 ∧ tS P.2.2.2 < tS P1.2.2.2 := by
  unfold stm at h
  repeat' split at h
  all_goals first
    | exact rdMark_ok hP h
    | exact rdSight_ok hP h
    | exact rdSet_ok (by omega) hP (by omega) h
    | exact rdErr_ok hP (by omega) h
    | cases h
theorem sts_ok (hP : GP l P) (h : sts l P = .inr P1) : GP l P1 ∧ tS P.2.2.2 < tS P1.2.2.2 := by
  unfold sts at h
  obtain ⟨P2, h2, h⟩ := andT_inr h
  obtain ⟨h3, h⟩ := ite_inr h
  injection h with h
  subst h
  have s := stm_ok hP h2
  have f := s.1.2.2.2.2
  refine ⟨⟨s.1.1, s.1.2.1, s.1.2.2.1, s.1.2.2.2.1, f.nxt⟩, ?_⟩
  have s1 := nxt_ge f
  have f2 := f.f
  show tS P.2.2.2 < tS (nxt l P2.2.2.2)
  omega
theorem pa_ok : ∀ (n : Nat) (P : Ps), GP l P → l.length < n + tS P.2.2.2 → ∀ P1, pa l n P = .inr P1 → GP l P1 ∧ tK P1.2.2.2 = 15 := by
  intro n
  induction n with
  | zero =>
    intro P hP hn
    have f := hP.2.2.2.2.f
    omega
  | succ n ih =>
    intro P hP hn P1 h
    simp only [pa] at h
    split at h
    · rename_i hk
      injection h with h
      subst h
      exact ⟨hP, hk⟩
    · obtain ⟨P2, h2, h⟩ := andT_inr h
      have s := sts_ok hP h2
      exact ih P2 s.1 (by omega) P1 h
theorem Good_o : Good oV := by
  refine ⟨by show 0 ≤ 12; omega, by show 0 ≤ 40; omega, ?_, ?_, ?_, ?_, Or.inl rfl, fun h => ?_, trivial, fun k h0 h1 => ?_, fun k j h0 h1 => ?_, fun s h0 h1 => ?_⟩
  · show (1 : Int) ≤ 1000 ∧ (1000 : Int) ≤ 9999; omega
  · show (0 : Int) ≤ 0 ∧ (0 : Int) ≤ 99; omega
  · show (-99 : Int) ≤ 0 ∧ (0 : Int) ≤ 99; omega
  · show (0 : Int) ≤ 10 ∧ (10 : Int) ≤ 999; omega
  · have h : (0 : Int) = 1 := h
    omega
  · have h1 : k < ((0 : Nat) : Int) := h1
    omega
  · have h1 : k < ((0 : Nat) : Int) := h1
    omega
  · have h1 : s < ((0 : Nat) : Int) := h1
    omega
theorem GoodH_o : GoodH 0 oH := fun k _ _ => ⟨Or.inl rfl, Or.inl rfl, fun h => by have h : (0 : Int) = 1 := h; omega, fun _ => ⟨rfl, rfl⟩⟩
theorem HB_o (m : Nat) (M : Int) : HB m oH M := fun k _ _ h => by have h : (0 : Int) = 1 := h; omega
theorem GP_0 : GP l (P0 l) := ⟨Good_o, GoodH_o, HB_o _ _, fun _ => Or.inl rfl, 0, Nat.zero_le _, rfl⟩
end Prs60b
