/-! ===== how far relaxing can drift: a potential of least energy ===== -/
def hEd (V : Vw) (g : Int → Int) (k : Int) : Bool := isE V k && (decide (g (k / 12) = 1) && decide (g (k % 12) = 1))
def dv (V : Vw) (x : Int → Int) (k : Int) : Int := x (k / 12) + ris V k - x (k % 12)
def en0 (V : Vw) (g x : Int → Int) (k : Int) : Int := if hEd V g k = true then wgt V k * (dv V x k * dv V x k) else 0
def en (V : Vw) (g x : Int → Int) : Int := sm (en0 V g x) 144
def szx (x : Int → Int) : Int := sm (fun k => absI (x k)) 12
theorem ex_min {α : Type} (P : α → Prop) (f : α → Nat) : ∀ (n : Nat) (x : α), P x → f x ≤ n → ∃ x, P x ∧ ∀ y, P y → f x ≤ f y := by
  intro n
  induction n with
  | zero => intro x hx h; exact ⟨x, hx, fun y _ => by omega⟩
  | succ n ih =>
    intro x hx h
    by_cases h2 : ∃ y, P y ∧ f y < f x
    · obtain ⟨y, hy, hl⟩ := h2
      exact ih y hy (by omega)
    · exact ⟨x, hx, fun y hy => Nat.not_lt.mp fun q => h2 ⟨y, hy, q⟩⟩
theorem sm_nnr {f : Int → Int} (n : Nat) (h : ∀ i : Int, 0 ≤ i → i < n → 0 ≤ f i) : 0 ≤ sm f n := by
  induction n with
  | zero => simp [sm]
  | succ n ih => have := h n (by omega) (by omega); have := ih (fun i a b => h i a (by omega)); simp only [sm]; omega
theorem sm_ler {f g : Int → Int} (n : Nat) (h : ∀ i : Int, 0 ≤ i → i < n → f i ≤ g i) : sm f n ≤ sm g n := by
  induction n with
  | zero => simp [sm]
  | succ n ih => have := h n (by omega) (by omega); have := ih (fun i a b => h i a (by omega)); simp only [sm]; omega
theorem sm_ltr {f g : Int → Int} (n : Nat) (h : ∀ i : Int, 0 ≤ i → i < n → f i ≤ g i) {c : Int} (h0 : 0 ≤ c) (h1 : c < n) (hc : f c < g c) : sm f n < sm g n := by
  induction n with
  | zero => omega
  | succ n ih =>
    have h2 := h n (by omega) (by omega)
    simp only [sm]
    by_cases hn : c = n
    · subst hn
      have := sm_ler (f := f) (g := g) n (fun i a b => h i a (by omega))
      omega
    · have := ih (fun i a b => h i a (by omega)) (by omega)
      omega
theorem sm_lin {f f' g w : Int → Int} {c : Int} (n : Nat) (h : ∀ i : Int, 0 ≤ i → i < n → f' i = f i + c * g i + w i) : sm f' n = sm f n + c * sm g n + sm w n := by
  induction n with
  | zero => simp [sm]
  | succ n ih =>
    have h1 := ih (fun i a b => h i a (by omega))
    have h2 := h n (by omega) (by omega)
    simp only [sm, Int.mul_add]
    omega
theorem mul_nn {a b : Int} (ha : 0 ≤ a) (hb : 0 ≤ b) : 0 ≤ a * b := Int.mul_nonneg ha hb
section Drift78
variable {V : Vw} {g : Int → Int}
theorem hEd_iff {k : Int} : hEd V g k = true ↔ isE V k = true ∧ g (k / 12) = 1 ∧ g (k % 12) = 1 := by
  unfold hEd; simp
theorem sq_nn (x : Int) : 0 ≤ x * x := by
  rcases Int.le_total 0 x with h | h
  · exact Int.mul_nonneg h h
  · exact Int.mul_nonneg_of_nonpos_of_nonpos h h
theorem en_nn (hG : Good V) (x : Int → Int) : 0 ≤ en V g x := by
  refine sm_nnr _ fun k h0 h1 => ?_
  unfold en0
  split
  · rename_i h
    exact Int.mul_nonneg (wgt_rg hG (hEd_iff.mp h).1).1 (sq_nn _)
  · omega
theorem pot_ex (hG : Good V) : ∃ x : Int → Int, (∀ y, en V g x ≤ en V g y) ∧ ∀ y, en V g y ≤ en V g x → szx x ≤ szx y := by
  obtain ⟨x0, -, h0⟩ := ex_min (fun _ : Int → Int => True) (fun x => (en V g x).toNat) _ (fun _ => 0) trivial (Nat.le_refl _)
  obtain ⟨x, h1, h2⟩ := ex_min (fun x : Int → Int => (en V g x).toNat ≤ (en V g x0).toNat) (fun x => (szx x).toNat) _ x0 (Nat.le_refl _) (Nat.le_refl _)
  have nn : ∀ y, 0 ≤ en V g y := fun y => en_nn hG y
  have sn : ∀ y : Int → Int, 0 ≤ szx y := fun y => sm_nnr _ fun k _ _ => by unfold absI; split <;> omega
  refine ⟨x, fun y => ?_, fun y hy => ?_⟩
  · have := h0 y trivial
    have := nn y
    have := nn x
    have := nn x0
    omega
  · have := h2 y (by have := nn y; have := nn x; have := nn x0; omega)
    have := sn x
    have := sn y
    omega
/-- no gap above: a mark lies near below any level that a mark passes -/
theorem pot_gap (hG : Good V) {x : Int → Int} (hx : ∀ y, en V g y ≤ en V g x → szx x ≤ szx y) {s v b : Int} (hs : s = 1 ∨ s = -1) (hv : 0 ≤ v) (hb : mark12 b) (hbv : s * x b > v) : ∃ a, mark12 a ∧ v - 51678 < s * x a ∧ s * x a ≤ v := by
  refine Classical.byContradiction fun hno => ?_
  have hno : ∀ a, mark12 a → s * x a ≤ v → s * x a ≤ v - 51678 := fun a ha h => Int.not_lt.mp fun q => hno ⟨a, ha, q, h⟩
  have he : en V g (fun k => if s * x k > v then x k - s else x k) ≤ en V g x := by
    refine sm_ler _ fun k h0 h1 => ?_
    unfold en0
    by_cases hk : hEd V g k = true
    · rw [if_pos hk, if_pos hk]
      have hE := (hEd_iff.mp hk).1
      have r := gd_ris hG (isE_iff.mp hE)
      refine Int.mul_le_mul_of_nonneg_left ?_ (wgt_rg hG hE).1
      have n1 := hno (k / 12) ⟨by omega, by omega⟩
      have n2 := hno (k % 12) ⟨by omega, by omega⟩
      unfold dv
      dsimp only
      generalize x (k / 12) = p at *
      generalize x (k % 12) = q at *
      generalize ris V k = z at *
      have key : ∀ d e : Int, (d = e ∨ (e ≥ 1 ∧ d = e - 1) ∨ (e ≤ -1 ∧ d = e + 1)) → d * d ≤ e * e := by
        intro d e h
        rcases h with rfl | ⟨h1, rfl⟩ | ⟨h1, rfl⟩
        · exact Int.le_refl _
        · have : (e - 1) * (e - 1) = e * e - 2 * e + 1 := by rw [Int.sub_mul, Int.mul_sub]; omega
          omega
        · have : (e + 1) * (e + 1) = e * e + 2 * e + 1 := by rw [Int.add_mul, Int.mul_add]; omega
          omega
      refine key _ _ ?_
      rcases hs with rfl | rfl
      · split <;> split <;> omega
      · split <;> split <;> omega
    · rw [if_neg hk, if_neg hk]; exact Int.le_refl _
  have h2 := hx _ he
  have h3 : szx (fun k => if s * x k > v then x k - s else x k) < szx x := by
    refine sm_ltr _ (fun k _ _ => ?_) hb.1 (c := b) hb.2 ?_
    · dsimp only
      unfold absI
      rcases hs with rfl | rfl
      · split <;> (repeat' split) <;> omega
      · split <;> (repeat' split) <;> omega
    · dsimp only
      rw [if_pos hbv]
      unfold absI
      rcases hs with rfl | rfl
      · split <;> split <;> omega
      · split <;> split <;> omega
  omega
theorem pot_chain (hG : Good V) {x : Int → Int} (hx : ∀ y, en V g y ≤ en V g x → szx x ≤ szx y) {s : Int} (hs : s = 1 ∨ s = -1) : ∀ (n : Nat), (∃ b, mark12 b ∧ s * x b > n * 51678) → ct (fun k => decide (s * x k > n * 51678)) 12 + n ≤ ct (fun k => decide (s * x k > 0)) 12 := by
  intro n
  induction n with
  | zero => intro _; simp
  | succ n ih =>
    rintro ⟨b, hb, hbv⟩
    have h1 := ih ⟨b, hb, by omega⟩
    obtain ⟨a, ha, ha1, ha2⟩ := pot_gap hG hx hs (v := ((n + 1 : Nat) : Int) * 51678) (by omega) hb hbv
    have h2 := (ct_sub (p := fun k => decide (s * x k > n * 51678)) (q := fun k => decide (s * x k > ((n + 1 : Nat) : Int) * 51678)) (c := a) (decide_eq_true (by omega)) (decide_eq_false (by omega)) (fun i _ _ h => decide_eq_true (by have := of_decide_eq_true h; omega)) 12 (Nat.le_refl _)).2 ha.1 ha.2
    omega
theorem pot_bd (hG : Good V) {x : Int → Int} (hx : ∀ y, en V g y ≤ en V g x → szx x ≤ szx y) {b : Int} (hb : mark12 b) : -620136 ≤ x b ∧ x b ≤ 620136 := by
  have key : ∀ s : Int, s = 1 ∨ s = -1 → s * x b ≤ 620136 := by
    intro s hs
    refine Int.not_lt.mp fun h => ?_
    have h1 := pot_chain hG hx hs 12 ⟨b, hb, by omega⟩
    have h2 := ct_le (fun k => decide (s * x k > 0)) 12
    have h3 : 1 ≤ ct (fun k => decide (s * x k > ((12 : Nat) : Int) * 51678)) 12 := ct_pos hb.1 hb.2 (decide_eq_true (by omega))
    omega
  have h1 := key 1 (Or.inl rfl)
  have h2 := key (-1) (Or.inr rfl)
  omega
/-- the pull at a mark -/
def pul (V : Vw) (g x : Int → Int) (b k : Int) : Int := if isE V k = true ∧ oth k b ≠ -1 ∧ g (oth k b) = 1 then wgt V k * (x (oth k b) + rfk V k (oth k b) - x b) else 0
def puw (V : Vw) (g : Int → Int) (b k : Int) : Int := if isE V k = true ∧ oth k b ≠ -1 ∧ g (oth k b) = 1 then wgt V k else 0
theorem en_step (hG : Good V) (x : Int → Int) {b t : Int} (hb : mark12 b) (hgb : g b = 1) (ht : t = 1 ∨ t = -1) : en V g (fun k => if k = b then x k + t else x k) = en V g x + (-(2 * t)) * sm (pul V g x b) 144 + sm (puw V g b) 144 := by
  refine sm_lin _ fun k h0 h1 => ?_
  unfold en0 pul puw
  by_cases hE : isE V k = true
  · have hr := isE_ab hG h0 h1 hE
    unfold dv oth rfk
    by_cases h1 : k / 12 = b
    · subst h1
      have h2 : ¬ k % 12 = k / 12 := by omega
      have h3 : k % 12 ≠ -1 := by omega
      simp only [if_true, if_neg h2]
      by_cases hg : g (k % 12) = 1
      · rw [if_pos (hEd_iff.mpr ⟨hE, hgb, hg⟩), if_pos (hEd_iff.mpr ⟨hE, hgb, hg⟩), if_pos ⟨hE, h3, hg⟩, if_pos ⟨hE, h3, hg⟩]
        generalize x (k / 12) = p
        generalize x (k % 12) = q
        generalize ris V k = z
        generalize wgt V k = w
        have e1 : (p + t + z - q) * (p + t + z - q) = (p + z - q) * (p + z - q) + 2 * t * (p + z - q) + 1 := by
          rw [show p + t + z - q = (p + z - q) + t by omega]
          generalize p + z - q = d
          rcases ht with rfl | rfl <;> rw [Int.add_mul, Int.mul_add] <;> omega
        rw [e1, Int.mul_add, Int.mul_add, Int.mul_one]
        have e2 : q + -z - p = -(p + z - q) := by omega
        rw [e2]
        generalize p + z - q = d
        rcases ht with rfl | rfl
        · have a1 : w * (2 * 1 * d) = 2 * (w * d) := by rw [show (2 : Int) * 1 * d = 2 * d by omega, Int.mul_left_comm]
          have a2 := Int.mul_neg w d
          rw [a1, a2]; omega
        · have a1 : w * (2 * -1 * d) = -2 * (w * d) := by rw [show (2 : Int) * -1 * d = -2 * d by omega, Int.mul_left_comm]
          have a2 := Int.mul_neg w d
          rw [a1, a2]; omega
      · rw [if_neg (fun q => hg (hEd_iff.mp q).2.2), if_neg (fun q => hg (hEd_iff.mp q).2.2), if_neg (fun q => hg q.2.2), if_neg (fun q => hg q.2.2)]; omega
    · by_cases h2 : k % 12 = b
      · subst h2
        have h3 : k / 12 ≠ -1 := by omega
        simp only [if_neg h1, if_true]
        by_cases hg : g (k / 12) = 1
        · rw [if_pos (hEd_iff.mpr ⟨hE, hg, hgb⟩), if_pos (hEd_iff.mpr ⟨hE, hg, hgb⟩), if_pos ⟨hE, h3, hg⟩, if_pos ⟨hE, h3, hg⟩]
          generalize x (k / 12) = p
          generalize x (k % 12) = q
          generalize ris V k = z
          generalize wgt V k = w
          have e1 : (p + z - (q + t)) * (p + z - (q + t)) = (p + z - q) * (p + z - q) + -(2 * t) * (p + z - q) + 1 := by
            rw [show p + z - (q + t) = (p + z - q) - t by omega]
            generalize p + z - q = d
            rcases ht with rfl | rfl <;> rw [Int.sub_mul, Int.mul_sub] <;> omega
          rw [e1, Int.mul_add, Int.mul_add, Int.mul_one, Int.mul_left_comm w (-(2 * t)) (p + z - q)]
        · rw [if_neg (fun q => hg (hEd_iff.mp q).2.1), if_neg (fun q => hg (hEd_iff.mp q).2.1), if_neg (fun q => hg q.2.2), if_neg (fun q => hg q.2.2)]; omega
      · simp only [if_neg h1, if_neg h2]
        simp
  · have h1 : ¬ hEd V g k = true := fun q => hE (hEd_iff.mp q).1
    rw [if_neg h1, if_neg h1, if_neg (fun q => hE q.1), if_neg (fun q => hE q.1)]; omega
theorem pot_pull (hG : Good V) {x : Int → Int} (hx : ∀ y, en V g x ≤ en V g y) {b : Int} (hb : mark12 b) (hgb : g b = 1) : 2 * sm (pul V g x b) 144 ≤ sm (puw V g b) 144 ∧ -(2 * sm (pul V g x b) 144) ≤ sm (puw V g b) 144 := by
  have h1 := hx (fun k => if k = b then x k + 1 else x k)
  have h2 := hx (fun k => if k = b then x k + -1 else x k)
  rw [en_step hG x hb hgb (Or.inl rfl)] at h1
  rw [en_step hG x hb hgb (Or.inr rfl)] at h2
  omega
/-- heights within a band about a potential -/
def DR (x : Int → Int) (H : Hw) (C D : Int) : Prop := ∀ k, mark12 k → hh H k = 1 → x k - D ≤ hv H k ∧ hv H k ≤ x k + C
theorem mean_dr {H : Hw} (hG : Good V) {x : Int → Int} (hx : ∀ y, en V (hh H) x ≤ en V (hh H) y) {C D : Int} (hD : DR x H C D) {b : Int} (hb : mark12 b) (hhb : hh H b = 1) : x b - (D + 1) ≤ mean V H b ∧ mean V H b ≤ x b + C := by
  have hp := pot_pull hG hx hb hhb
  have w0 : 0 ≤ sm (puw V (hh H) b) 144 := sm_nnr _ fun k _ _ => by
    unfold puw; split
    · rename_i h; exact (wgt_rg hG h.1).1
    · omega
  have ew : meW V H b = puw V (hh H) b := rfl
  have u1 : sm (meS V H b) 144 ≤ sm (pul V (hh H) x b) 144 + (x b + C) * sm (puw V (hh H) b) 144 + sm (fun _ => 0) 144 := by
    rw [← sm_lin (f' := fun k => pul V (hh H) x b k + (x b + C) * puw V (hh H) b k + 0) 144 (fun _ _ _ => rfl)]
    refine sm_ler _ fun k h0 h1 => ?_
    unfold meS pul puw
    split
    · rename_i h
      have o := oth_rg (b := b) h0 h1
      have d := hD (oth k b) ⟨by omega, o.2⟩ h.2.2
      have m := Int.mul_le_mul_of_nonneg_left (show hv H (oth k b) + rfk V k (oth k b) ≤ (x (oth k b) + rfk V k (oth k b) - x b) + (x b + C) by omega) (wgt_rg hG h.1).1
      rw [Int.mul_add (wgt V k) (x (oth k b) + rfk V k (oth k b) - x b), Int.mul_comm (wgt V k) (x b + C)] at m
      omega
    · omega
  have u2 : sm (pul V (hh H) x b) 144 + (x b - D) * sm (puw V (hh H) b) 144 + sm (fun _ => 0) 144 ≤ sm (meS V H b) 144 := by
    rw [← sm_lin (f' := fun k => pul V (hh H) x b k + (x b - D) * puw V (hh H) b k + 0) 144 (fun _ _ _ => rfl)]
    refine sm_ler _ fun k h0 h1 => ?_
    unfold meS pul puw
    split
    · rename_i h
      have o := oth_rg (b := b) h0 h1
      have d := hD (oth k b) ⟨by omega, o.2⟩ h.2.2
      have m := Int.mul_le_mul_of_nonneg_left (show (x (oth k b) + rfk V k (oth k b) - x b) + (x b - D) ≤ hv H (oth k b) + rfk V k (oth k b) by omega) (wgt_rg hG h.1).1
      rw [Int.mul_add (wgt V k) (x (oth k b) + rfk V k (oth k b) - x b), Int.mul_comm (wgt V k) (x b - D)] at m
      omega
    · omega
  have z0 : sm (fun _ => 0) 144 = 0 := sm_out (V := V) _ (fun _ _ _ => rfl)
  rw [z0] at u1 u2
  unfold mean
  rw [ew]
  have hb2 := hD b hb hhb
  split
  · omega
  · rename_i hw
    generalize sm (puw V (hh H) b) 144 = W at *
    generalize sm (meS V H b) 144 = S at *
    generalize sm (pul V (hh H) x b) 144 = P at *
    have hW : 0 < W := by omega
    constructor
    · rw [Int.le_ediv_iff_mul_le hW]
      have : (x b - (D + 1)) * W = (x b - D) * W - W := by rw [show x b - (D + 1) = (x b - D) - 1 by omega, Int.sub_mul, Int.one_mul]
      omega
    · have h3 : S / W < x b + C + 1 := by
        rw [Int.ediv_lt_iff_lt_mul hW, Int.add_mul, Int.one_mul]
        omega
      omega
theorem rr_dr {H : Hw} (hG : Good V) {x : Int → Int} (hx : ∀ y, en V (hh H) x ≤ en V (hh H) y) {C D : Int} (hD : DR x H C D) : ∀ k : Nat, k ≤ 12 → (∀ j, hh (rr V H k).2 j = hh H j) ∧ DR x (rr V H k).2 C (D + k) := by
  intro k
  induction k with
  | zero => intro _; exact ⟨fun _ => rfl, by simpa [rr] using hD⟩
  | succ k ih =>
    intro hk
    have h := ih (by omega)
    simp only [rr]
    split
    · rename_i hc
      have hhf : hh (rr V H k).2 = hh H := funext h.1
      have hm := mean_dr (H := (rr V H k).2) hG (x := x) (by rw [hhf]; exact hx) h.2 (b := (k : Int)) ⟨by omega, by omega⟩ hc.2
      refine ⟨fun j => ?_, fun j hj hj1 => ?_⟩
      · rw [putH_hh]
        split
        · rename_i e; rw [e, ← h.1]; exact hc.2.symm
        · exact h.1 j
      · rw [putH_hv]
        rw [putH_hh] at hj1
        split
        · rename_i e
          rw [e]
          omega
        · rename_i e
          rw [if_neg e] at hj1
          have := h.2 j hj hj1
          omega
    · refine ⟨h.1, fun j hj hj1 => ?_⟩
      have := h.2 j hj hj1
      omega
theorem rbs_dr (hG : Good V) : ∀ (n : Nat) {H : Hw} {x : Int → Int}, (∀ y, en V (hh H) x ≤ en V (hh H) y) → ∀ {C D : Int}, DR x H C D → (∀ j, hh (rbs V n H).2 j = hh H j) ∧ DR x (rbs V n H).2 C (D + n * 12) := by
  intro n
  induction n with
  | zero => intro H x hx C D hD; exact ⟨fun _ => rfl, by simpa [rbs] using hD⟩
  | succ n ih =>
    intro H x hx C D hD
    have m := hG.1
    have h := rr_dr hG hx hD (vm V) m
    have hhf : hh (rr V H (vm V)).2 = hh H := funext h.1
    have h2 := ih (H := (rr V H (vm V)).2) (x := x) (by rw [hhf]; exact hx) h.2
    simp only [rbs]
    split
    · refine ⟨fun j => by rw [h2.1 j, h.1 j], fun j hj hj1 => ?_⟩
      have := h2.2 j hj hj1
      dsimp only
      have : ((n + 1 : Nat) : Int) * 12 = n * 12 + 12 := by omega
      omega
    · refine ⟨h.1, fun j hj hj1 => ?_⟩
      have := h.2 j hj hj1
      dsimp only
      omega
/-- relaxing keeps heights within a bound that grows by no more than this -/
theorem rbs_drift {H : Hw} (hG : Good V) (hGH : GoodH (vm V) H) {M : Int} (hB : HB (vm V) H M) {n : Nat} (hn : n ≤ 50) : HB (vm V) (rbs V n H).2 (M + 1240872) := by
  obtain ⟨x, hx1, hx2⟩ := pot_ex (V := V) (g := hh H) hG
  have bd := fun b hb => pot_bd hG hx2 (b := b) hb
  have hD : DR x H (M + 620136) (M + 620136) := fun k hk h1 => by
    have hkm : k < vm V := Int.not_le.mp fun q => by
      have := (hGH k hk.1 hk.2).2.2.2 q
      omega
    have := hB k hk.1 hkm h1
    have := bd k hk
    omega
  have h := (rbs_dr hG n hx1 hD).2
  intro k h0 h1 h2
  have m := hG.1
  have := h k ⟨h0, by omega⟩ h2
  have := bd k ⟨h0, by omega⟩
  omega
end Drift78
