/-! ===== sums over the edges at a mark, by the other marks ===== -/
theorem sm_split (f : Int → Int) (a : Nat) : ∀ b : Nat, sm f (a + b) = sm f a + sm (fun j => f (a + j)) b := by
  intro b
  induction b with
  | zero => simp [sm]
  | succ b ih =>
    rw [show a + (b + 1) = (a + b) + 1 by omega]
    simp only [sm]
    rw [ih, show (((a + b : Nat) : Int)) = (a : Int) + b by omega]
    omega
theorem sm_zero {f : Int → Int} (n : Nat) (h : ∀ s : Int, 0 ≤ s → s < n → f s = 0) : sm f n = 0 := by
  induction n with
  | zero => rfl
  | succ n ih => simp only [sm]; rw [ih (fun i a b => h i a (by omega)), h n (by omega) (by omega)]; rfl
theorem sm_single {f : Int → Int} {c : Int} (n : Nat) (h0 : 0 ≤ c) (h1 : c < n) (h : ∀ s : Int, 0 ≤ s → s < n → s ≠ c → f s = 0) : sm f n = f c := by
  induction n with
  | zero => omega
  | succ n ih =>
    simp only [sm]
    by_cases e : c = n
    · subst e
      rw [sm_zero n (fun s a b => h s a (by omega) (by omega))]
      omega
    · rw [ih (by omega) (fun s a b d => h s a (by omega) d), h n (by omega) (by omega) (fun q => e q.symm)]
      omega
theorem sm_tail {g : Int → Int} {b : Nat} (hg : g b = 0) : ∀ n : Nat, (n ≤ b → sm (fun j => if (b : Int) < j then g j else 0) n = 0) ∧ (b < n → sm g b + sm (fun j => if (b : Int) < j then g j else 0) n = sm g n) := by
  intro n
  induction n with
  | zero => exact ⟨fun _ => rfl, fun h => by omega⟩
  | succ n ih =>
    have s1 : sm (fun j => if (b : Int) < j then g j else 0) (n + 1) = sm (fun j => if (b : Int) < j then g j else 0) n + (if (b : Int) < n then g n else 0) := rfl
    have s2 : sm g (n + 1) = sm g n + g n := rfl
    refine ⟨fun h => ?_, fun h => ?_⟩
    · rw [s1, ih.1 (by omega), if_neg (by omega)]; rfl
    · rw [s1, s2]
      by_cases e : b = n
      · subst e
        rw [ih.1 (Nat.le_refl _), if_neg (by omega), hg]; omega
      · have := ih.2 (by omega)
        rw [if_pos (by omega)]; omega
/-- an edge's own mark and the other one: all edges at a mark -/
theorem sm_oth {f : Int → Int} {b : Nat} (hb : b < 12) (hf : ∀ k : Int, 0 ≤ k → k < 144 → ¬ (k / 12 < k % 12 ∧ (k / 12 = b ∨ k % 12 = b)) → f k = 0) : sm f 144 = sm (fun a => if a = (b : Int) then 0 else f (pq a b)) 12 := by
  have hg0 : (fun a => if a = (b : Int) then 0 else f (pq a b)) (b : Int) = 0 := if_pos rfl
  have hgl : ∀ a : Int, 0 ≤ a → a < b → (fun a => if a = (b : Int) then 0 else f (pq a b)) a = f (12 * a + b) := fun a h0 h1 => by
    dsimp only
    rw [if_neg (by omega), (pq_lt h1 h0 (by omega)).1]
  have hgr : ∀ a : Int, b < a → a < 12 → (fun a => if a = (b : Int) then 0 else f (pq a b)) a = f (12 * (b : Int) + a) := fun a h0 h1 => by
    dsimp only
    rw [if_neg (by omega), (pq_gt h0 (by omega) h1).1]
  generalize (fun a => if a = (b : Int) then 0 else f (pq a b)) = g at *
  have row : ∀ i : Nat, i < 12 → sm f (12 * (i + 1)) = sm f (12 * i) + (if i < b then g i else if i = b then sm (fun j => if (b : Int) < j then g j else 0) 12 else 0) := by
    intro i hi
    rw [show 12 * (i + 1) = 12 * i + 12 by omega, sm_split]
    congr 1
    by_cases h1 : i < b
    · rw [if_pos h1, hgl i (by omega) (by omega)]
      rw [sm_single (c := (b : Int)) 12 (by omega) (by omega) (fun s h0 h2 h3 => hf _ (by omega) (by omega) (fun q => by omega))]
      congr 1
    · rw [if_neg h1]
      by_cases h2 : i = b
      · rw [if_pos h2]
        refine sm_congr _ fun j h0 h3 => ?_
        subst h2
        by_cases h4 : (i : Int) < j
        · rw [if_pos h4, hgr j h4 h3]; congr 1
        · rw [if_neg h4]; exact hf _ (by omega) (by omega) (fun q => by omega)
      · rw [if_neg h2]
        exact sm_zero _ fun j h0 h3 => hf _ (by omega) (by omega) (fun q => by omega)
  have low : ∀ n : Nat, n ≤ b → sm f (12 * n) = sm g n := by
    intro n
    induction n with
    | zero => intro _; rfl
    | succ n ih =>
      intro h
      rw [row n (by omega), ih (by omega), if_pos (by omega)]
      rfl
  have mid : sm f (12 * (b + 1)) = sm g 12 := by
    rw [row b hb, low b (Nat.le_refl _), if_neg (by omega), if_pos rfl]
    exact (sm_tail hg0 12).2 hb
  have high : ∀ n : Nat, b + 1 ≤ n → n ≤ 12 → sm f (12 * n) = sm g 12 := by
    intro n h1 h2
    obtain ⟨d, rfl⟩ : ∃ d, n = b + 1 + d := ⟨n - (b + 1), by omega⟩
    induction d with
    | zero => exact mid
    | succ d ih =>
      rw [show b + 1 + (d + 1) = (b + 1 + d) + 1 by omega, row _ (by omega), ih (by omega) (by omega), if_neg (by omega), if_neg (by omega)]
      omega
  exact high 12 (by omega) (by omega)
theorem oth_pq {a b : Int} (ha : mark12 a) (hb : mark12 b) (h : a ≠ b) : oth (pq a b) b = a := by
  unfold oth mark12 at *
  rcases Int.lt_or_gt_of_ne h with x | x
  · have := pq_lt x ha.1 hb.2
    rw [if_neg (by omega), if_pos (by omega)]; omega
  · have := pq_gt x hb.1 ha.2
    rw [if_pos (by omega)]; omega
def raS (V : Vw) (H : Hw) (b a : Int) : Int := if a ≠ b ∧ isE V (pq a b) = true ∧ hh H a = 1 then wgt V (pq a b) * (hv H a + rf V a b) else 0
def raW (V : Vw) (H : Hw) (b a : Int) : Int := if a ≠ b ∧ isE V (pq a b) = true ∧ hh H a = 1 then wgt V (pq a b) else 0
theorem oth_no {V : Vw} (hG : Good V) {b k : Int} (h0 : 0 ≤ k) (h1 : k < 144) (h : ¬ (k / 12 < k % 12 ∧ (k / 12 = b ∨ k % 12 = b))) (hE : isE V k = true) : oth k b = -1 := by
  have := isE_ab hG h0 h1 hE
  unfold oth
  rw [if_neg (by omega), if_neg (by omega)]
theorem meS_ra {V : Vw} {H : Hw} (hG : Good V) (hGH : GoodH (vm V) H) {b : Int} (hb : 0 ≤ b ∧ b < vm V) : sm (meS V H b) 144 = sm (raS V H b) (vm V) ∧ sm (meW V H b) 144 = sm (raW V H b) (vm V) := by
  have m := hG.1
  obtain ⟨n, rfl⟩ : ∃ n : Nat, b = n := ⟨b.toNat, by omega⟩
  have far : ∀ j : Nat, vm V ≤ j → j < 12 → hh H j = 0 := fun j h1 h2 => ((hGH j (by omega) (by omega)).2.2.2 (by omega)).2
  constructor
  · rw [sm_oth (b := n) (by omega) (fun k h0 h1 h => by unfold meS; rw [if_neg (fun q => q.2.1 (oth_no hG h0 h1 h q.1))])]
    rw [← sm_flat (f := raS V H n) (K := vm V) (K' := 12) m (fun j h1 h2 => by unfold raS; rw [if_neg (fun q => by have := far j h1 h2; omega)])]
    refine sm_congr _ fun a h0 h1 => ?_
    unfold raS meS
    by_cases e : a = (n : Int)
    · rw [if_pos e, if_neg (fun q => q.1 e)]
    · rw [if_neg e, oth_pq ⟨h0, h1⟩ ⟨by omega, by omega⟩ e, rf_rfk V ⟨h0, h1⟩ ⟨by omega, by omega⟩ e]
      by_cases c : isE V (pq a n) = true ∧ hh H a = 1
      · rw [if_pos ⟨c.1, by omega, c.2⟩, if_pos ⟨e, c.1, c.2⟩]
      · rw [if_neg (fun q => c ⟨q.1, q.2.2⟩), if_neg (fun q => c q.2)]
  · rw [sm_oth (b := n) (by omega) (fun k h0 h1 h => by unfold meW; rw [if_neg (fun q => q.2.1 (oth_no hG h0 h1 h q.1))])]
    rw [← sm_flat (f := raW V H n) (K := vm V) (K' := 12) m (fun j h1 h2 => by unfold raW; rw [if_neg (fun q => by have := far j h1 h2; omega)])]
    refine sm_congr _ fun a h0 h1 => ?_
    unfold raW meW
    by_cases e : a = (n : Int)
    · rw [if_pos e, if_neg (fun q => q.1 e)]
    · rw [if_neg e, oth_pq ⟨h0, h1⟩ ⟨by omega, by omega⟩ e]
      by_cases c : isE V (pq a n) = true ∧ hh H a = 1
      · rw [if_pos ⟨c.1, by omega, c.2⟩, if_pos ⟨e, c.1, c.2⟩]
      · rw [if_neg (fun q => c ⟨q.1, q.2.2⟩), if_neg (fun q => c q.2)]
theorem ct_sm (p : Int → Bool) (n : Nat) : (ct p n : Int) = sm (fun k => if p k = true then 1 else 0) n := by
  induction n with
  | zero => rfl
  | succ n ih =>
    simp only [ct, sm]
    split <;> omega
theorem deg_ra {V : Vw} (hG : Good V) {b : Int} (hb : 0 ≤ b ∧ b < vm V) : deg V b 144 = ct (fun a => decide (a ≠ b) && isE V (pq b a)) (vm V) := by
  have m := hG.1
  obtain ⟨n, rfl⟩ : ∃ n : Nat, b = n := ⟨b.toNat, by omega⟩
  have far : ∀ j : Nat, vm V ≤ j → j < 12 → isE V (pq n j) = false := fun j h1 h2 => by
    cases hx : isE V (pq n j)
    · rfl
    · have := isE_ab hG (by unfold pq; split <;> omega) (by unfold pq; split <;> omega) hx
      by_cases e : (n : Int) < j
      · have := pq_lt e (by omega) (by omega : (j : Int) < 12); omega
      · unfold pq at this; rw [if_neg e] at this; omega
  rw [← ct_flat (p := fun a => decide (a ≠ (n : Int)) && isE V (pq n a)) (K := vm V) (K' := 12) m (fun j h1 h2 => by rw [far j h1 h2, Bool.and_false])]
  refine Int.natCast_inj.mp ?_
  unfold deg
  rw [ct_sm, ct_sm]
  rw [sm_oth (b := n) (by omega) (fun k h0 h1 h => by
    rw [if_neg]
    simp only [Bool.and_eq_true, decide_eq_true_eq]
    intro q
    have := isE_ab hG h0 h1 q.1
    exact h ⟨this.1, q.2⟩)]
  refine sm_congr _ fun a h0 h1 => ?_
  by_cases e : a = (n : Int)
  · rw [if_pos e, if_neg (by simp [e])]
  · rw [if_neg e, pq_comm e]
    have hor : pq (n : Int) a / 12 = n ∨ pq (n : Int) a % 12 = n := by
      rcases Int.lt_or_gt_of_ne e with x | x
      · have := pq_gt x h0 (by omega : (n : Int) < 12); omega
      · have := pq_lt x (by omega : (0 : Int) ≤ n) h1; omega
    simp [hor, e]
/-! ===== tensions, by the other marks ===== -/
def tnA (V : Vw) (H : Hw) (b : Int) : Nat → Int
  | 0 => 0
  | a + 1 => if (a : Int) ≠ b ∧ isE V (pq a b) = true ∧ hh H a = 1 then (if tnA V H b a < absI (hv H b - hv H a - rf V a b) then absI (hv H b - hv H a - rf V a b) else tnA V H b a) else tnA V H b a
theorem ten_ub {V : Vw} {H : Hw} {b : Int} : ∀ K : Nat, 0 ≤ ten V H b K ∧ ∀ k : Nat, k < K → isE V k = true → oth k b ≠ -1 → hh H (oth k b) = 1 → absI (hv H b - (hv H (oth k b) + rfk V k (oth k b))) ≤ ten V H b K := by
  intro K
  induction K with
  | zero => exact ⟨Int.le_refl _, fun k h => by omega⟩
  | succ K ih =>
    simp only [ten]
    split
    · rename_i h
      refine ⟨by omega, fun k hk h1 h2 h3 => ?_⟩
      by_cases e : k = K
      · subst e; exact Int.le_refl _
      · have := ih.2 k (by omega) h1 h2 h3; omega
    · rename_i h
      refine ⟨ih.1, fun k hk h1 h2 h3 => ?_⟩
      by_cases e : k = K
      · subst e; exact Int.not_lt.mp fun q => h ⟨h1, h2, h3, q⟩
      · exact ih.2 k (by omega) h1 h2 h3
theorem ten_at {V : Vw} {H : Hw} {b : Int} : ∀ K : Nat, ten V H b K = 0 ∨ ∃ k : Nat, k < K ∧ isE V k = true ∧ oth k b ≠ -1 ∧ hh H (oth k b) = 1 ∧ absI (hv H b - (hv H (oth k b) + rfk V k (oth k b))) = ten V H b K := by
  intro K
  induction K with
  | zero => exact Or.inl rfl
  | succ K ih =>
    simp only [ten]
    split
    · rename_i h; exact Or.inr ⟨K, by omega, h.1, h.2.1, h.2.2.1, rfl⟩
    · rcases ih with h | ⟨k, h1, h2⟩
      · exact Or.inl h
      · exact Or.inr ⟨k, by omega, h2⟩
theorem tnA_ub {V : Vw} {H : Hw} {b : Int} : ∀ K : Nat, 0 ≤ tnA V H b K ∧ ∀ a : Nat, a < K → (a : Int) ≠ b → isE V (pq a b) = true → hh H a = 1 → absI (hv H b - hv H a - rf V a b) ≤ tnA V H b K := by
  intro K
  induction K with
  | zero => exact ⟨Int.le_refl _, fun k h => by omega⟩
  | succ K ih =>
    simp only [tnA]
    split
    · rename_i h
      split
      · refine ⟨by omega, fun k hk h1 h2 h3 => ?_⟩
        by_cases e : k = K
        · subst e; exact Int.le_refl _
        · have := ih.2 k (by omega) h1 h2 h3; omega
      · refine ⟨ih.1, fun k hk h1 h2 h3 => ?_⟩
        by_cases e : k = K
        · subst e; omega
        · exact ih.2 k (by omega) h1 h2 h3
    · rename_i h
      refine ⟨ih.1, fun k hk h1 h2 h3 => ?_⟩
      by_cases e : k = K
      · subst e; exact absurd ⟨h1, h2, h3⟩ h
      · exact ih.2 k (by omega) h1 h2 h3
theorem tnA_at {V : Vw} {H : Hw} {b : Int} : ∀ K : Nat, tnA V H b K = 0 ∨ ∃ a : Nat, a < K ∧ (a : Int) ≠ b ∧ isE V (pq a b) = true ∧ hh H a = 1 ∧ absI (hv H b - hv H a - rf V a b) = tnA V H b K := by
  intro K
  induction K with
  | zero => exact Or.inl rfl
  | succ K ih =>
    simp only [tnA]
    have old : tnA V H b K = 0 ∨ ∃ a : Nat, a < K + 1 ∧ (a : Int) ≠ b ∧ isE V (pq a b) = true ∧ hh H a = 1 ∧ absI (hv H b - hv H a - rf V a b) = tnA V H b K := by
      rcases ih with h | ⟨k, h1, h2⟩
      · exact Or.inl h
      · exact Or.inr ⟨k, by omega, h2⟩
    split
    · rename_i h
      split
      · exact Or.inr ⟨K, by omega, h.1, h.2.1, h.2.2, rfl⟩
      · exact old
    · exact old
theorem ten_tnA {V : Vw} {H : Hw} (hG : Good V) (hGH : GoodH (vm V) H) {b : Int} (hb : 0 ≤ b ∧ b < vm V) : ten V H b 144 = tnA V H b (vm V) := by
  have m := hG.1
  have hbm : mark12 b := ⟨hb.1, by omega⟩
  refine Int.le_antisymm ?_ ?_
  · rcases ten_at (V := V) (H := H) (b := b) 144 with h | ⟨k, hk, hE, ho, h1, h2⟩
    · rw [h]; exact (tnA_ub _).1
    · have hr := isE_ab hG (by omega) (by omega) hE
      have o := oth_rg (k := (k : Int)) (b := b) (by omega) (by omega)
      have oo := oth_or ho
      have e : oth k b ≠ b := by unfold oth at *; split <;> (try split) <;> omega
      have hp : pq (oth k b) b = k := by
        have := pq_self (k := (k : Int)) (by omega) hr.1
        unfold oth at *
        by_cases c : (k : Int) / 12 = b
        · rw [if_pos c]
          rw [c] at this
          rw [pq_comm (by omega)]; exact this
        · rw [if_neg c] at ho ⊢
          by_cases d : (k : Int) % 12 = b
          · rw [if_pos d]; rw [d] at this; exact this
          · rw [if_neg d] at ho; exact absurd rfl ho
      obtain ⟨n, hn⟩ : ∃ n : Nat, oth k b = n := ⟨(oth k b).toNat, by omega⟩
      rw [hn] at ho h1 h2 o oo e hp
      have nm : n < vm V := by
        refine Nat.not_le.mp fun q => ?_
        have := ((hGH n (by omega) (by omega)).2.2.2 (by omega)).2
        omega
      have h3 := (tnA_ub (V := V) (H := H) (b := b) (vm V)).2 n nm e (by rw [hp]; exact hE) h1
      rw [rf_rfk V ⟨by omega, by omega⟩ hbm e, hp] at h3
      rw [← h2]
      rw [show hv H b - (hv H n + rfk V k n) = hv H b - hv H n - rfk V k n by omega]
      exact h3
  · rcases tnA_at (V := V) (H := H) (b := b) (vm V) with h | ⟨a, ha, e, hE, h1, h2⟩
    · rw [h]; exact (ten_ub _).1
    · have ham : mark12 (a : Int) := ⟨by omega, by omega⟩
      have pg := pq_rg (m := 12) ham hbm (by omega) e
      obtain ⟨k, hk⟩ : ∃ k : Nat, pq a b = k := ⟨(pq a b).toNat, by omega⟩
      have o := oth_pq ham hbm e
      rw [rf_rfk V ham hbm e] at h2
      rw [hk] at pg o h2 hE
      have h3 := (ten_ub (V := V) (H := H) (b := b) 144).2 k (by omega) hE (by rw [o]; omega) (by rw [o]; exact h1)
      rw [o] at h3
      rw [← h2, show hv H b - hv H a - rfk V k a = hv H b - (hv H a + rfk V k a) by omega]
      exact h3
