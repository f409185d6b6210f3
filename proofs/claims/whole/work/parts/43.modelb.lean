/-! ===== bounds in the model ===== -/
theorem dst_comm (V : Vw) (a b : Int) : dst V a b = dst V b a := by unfold dst; split <;> split <;> omega
theorem pq_comm {a b : Int} (h : a ≠ b) : pq a b = pq b a := by unfold pq; split <;> split <;> omega
theorem pq_rg {a b m : Int} (ha : 0 ≤ a ∧ a < m) (hb : 0 ≤ b ∧ b < m) (hm : m ≤ 12) (hne : a ≠ b) : 0 ≤ pq a b ∧ pq a b < 144 ∧ 0 ≤ pq a b / 12 ∧ pq a b / 12 < pq a b % 12 ∧ pq a b % 12 < m := by
  unfold pq; split <;> omega
theorem pq_lt {a b : Int} (hab : a < b) (ha : 0 ≤ a) (hb : b < 12) : pq a b = 12 * a + b ∧ pq a b / 12 = a ∧ pq a b % 12 = b := by
  unfold pq; rw [if_pos hab]; omega
theorem pq_gt {a b : Int} (hab : b < a) (ha : 0 ≤ b) (hb : a < 12) : pq a b = 12 * b + a ∧ pq a b / 12 = b ∧ pq a b % 12 = a := by
  unfold pq; rw [if_neg (by omega)]; omega
theorem pq_self {k : Int} (h0 : 0 ≤ k) (h : k / 12 < k % 12) : pq (k / 12) (k % 12) = k := by
  unfold pq; rw [if_pos h]; omega
section Good43
variable {V : Vw}
theorem gd_pl (hG : Good V) {k : Int} (h0 : 0 ≤ k) (h1 : k < vm V) : 0 ≤ vK V 0 k ∧ vK V 0 k ≤ 99999 := (hG.2.2.2.2.2.2.2.2.2.1 k h0 h1).1
theorem gd_s (hG : Good V) {s : Int} (h0 : 0 ≤ s) (h1 : s < vn V) : (0 ≤ vG V 0 s ∧ vG V 0 s < vm V) ∧ (0 ≤ vG V 1 s ∧ vG V 1 s < vm V) ∧ vG V 0 s ≠ vG V 1 s ∧ (vG V 2 s = 0 ∨ vG V 2 s = 1) ∧ (-9999 ≤ vG V 3 s ∧ vG V 3 s ≤ 9999) ∧ (-40 ≤ vG V 4 s ∧ vG V 4 s ≤ 60) ∧ (vG V 5 s = 0 ∨ vG V 5 s = 1) := hG.2.2.2.2.2.2.2.2.2.2.2 s h0 h1
theorem gd_dst (hG : Good V) {a b : Int} (ha : 0 ≤ a ∧ a < vm V) (hb : 0 ≤ b ∧ b < vm V) : 0 ≤ dst V a b ∧ dst V a b ≤ 99999 ∧ (a ≠ b → 0 < dst V a b) := by
  have h1 := gd_pl hG ha.1 ha.2
  have h2 := gd_pl hG hb.1 hb.2
  have h3 : a ≠ b → vK V 0 a ≠ vK V 0 b := fun h => (hG.2.2.2.2.2.2.2.2.2.2.1 a b ha.1 ha.2 hb.1 hb.2 h).1
  unfold dst
  refine ⟨by split <;> omega, by split <;> omega, fun h => ?_⟩
  have := h3 h
  split <;> omega
theorem gd_sdst (hG : Good V) {s : Int} (h0 : 0 ≤ s) (h1 : s < vn V) : 0 < sdst V s ∧ sdst V s ≤ 99999 := by
  have h := gd_s hG h0 h1
  have h2 := gd_dst hG h.1 h.2.1
  exact ⟨h2.2.2 h.2.2.1, h2.2.1⟩
theorem gd_pr (hG : Good V) {s : Int} (h0 : 0 ≤ s) (h1 : s < vn V) : 0 ≤ pr V s ∧ pr V s < 144 ∧ 0 ≤ pr V s / 12 ∧ pr V s / 12 < pr V s % 12 ∧ pr V s % 12 < vm V := by
  have h := gd_s hG h0 h1
  exact pq_rg h.1 h.2.1 (by have := hG.1; omega) h.2.2.1
theorem gd_dk (hG : Good V) {s : Int} (h0 : 0 ≤ s) (h1 : s < vn V) : dk V (pr V s) = sdst V s := by
  have h := gd_s hG h0 h1
  have hm := hG.1
  unfold dk sdst pr
  by_cases hlt : vG V 0 s < vG V 1 s
  · have h2 := pq_lt hlt h.1.1 (by omega)
    rw [h2.2.1, h2.2.2]
  · have h2 := pq_gt (a := vG V 0 s) (b := vG V 1 s) (by omega) h.2.1.1 (by omega)
    rw [h2.2.1, h2.2.2, dst_comm]
theorem mul_bd {a b A B : Int} (ha : -A ≤ a ∧ a ≤ A) (hb : 0 ≤ b ∧ b ≤ B) : -(A * B) ≤ a * b ∧ a * b ≤ A * B := by
  have hA : 0 ≤ A := by omega
  have h1 : A * b ≤ A * B := Int.mul_le_mul_of_nonneg_left hb.2 hA
  have h2 : a * b ≤ A * b := Int.mul_le_mul_of_nonneg_right ha.2 hb.1
  have h3 : -A * b ≤ a * b := Int.mul_le_mul_of_nonneg_right ha.1 hb.1
  rw [Int.neg_mul] at h3
  omega
theorem gd_bnd (hG : Good V) {s : Int} (h0 : 0 ≤ s) (h1 : s < vn V) : 0 ≤ bnd V s ∧ bnd V s ≤ 9900 ∧ 0 ≤ vS V 1 * sdst V s * sdst V s ∧ vS V 1 * sdst V s * sdst V s ≤ 989980200099 ∧ 0 ≤ vS V 1 * sdst V s ∧ vS V 1 * sdst V s ≤ 9899901 := by
  have h := gd_sdst hG h0 h1
  have hB := hG.2.2.2.1
  have h2 : vS V 1 * sdst V s ≤ 99 * 99999 := (mul_bd (A := 99) (B := 99999) (by omega) (by omega)).2
  have h3 : 0 ≤ vS V 1 * sdst V s := Int.mul_nonneg hB.1 (by omega)
  have h4 : vS V 1 * sdst V s * sdst V s ≤ 9899901 * 99999 := (mul_bd (A := 9899901) (B := 99999) (by omega) (by omega)).2
  have h5 : 0 ≤ vS V 1 * sdst V s * sdst V s := Int.mul_nonneg h3 (by omega)
  unfold bnd
  omega
theorem gd_wrm (hG : Good V) {s : Int} (h0 : 0 ≤ s) (h1 : s < vn V) : -5940 ≤ wrm V s ∧ wrm V s ≤ 5940 ∧ -593994060 ≤ vS V 2 * (vG V 4 s - 20) * sdst V s ∧ vS V 2 * (vG V 4 s - 20) * sdst V s ≤ 593994060 ∧ -5940 ≤ vS V 2 * (vG V 4 s - 20) ∧ vS V 2 * (vG V 4 s - 20) ≤ 5940 := by
  have h := gd_sdst hG h0 h1
  have hs := gd_s hG h0 h1
  have hB := hG.2.2.2.2.1
  have h2 : -5940 ≤ vS V 2 * (vG V 4 s - 20) ∧ vS V 2 * (vG V 4 s - 20) ≤ 5940 := by
    rcases Int.le_total 0 (vG V 4 s - 20) with h3 | h3
    · have := mul_bd (a := vS V 2) (b := vG V 4 s - 20) (A := 99) (B := 40) (by omega) (by omega); omega
    · have h4 := mul_bd (a := vS V 2) (b := -(vG V 4 s - 20)) (A := 99) (B := 60) (by omega) (by omega)
      rw [Int.mul_neg] at h4; omega
  have h4 := mul_bd (a := vS V 2 * (vG V 4 s - 20)) (b := sdst V s) (A := 5940) (B := 99999) (by omega) (by omega)
  unfold wrm
  omega
theorem gd_pur (hG : Good V) {s : Int} (h0 : 0 ≤ s) (h1 : s < vn V) : -25839 ≤ pur V s ∧ pur V s ≤ 25839 := by
  have a := gd_bnd hG h0 h1
  have b := gd_wrm hG h0 h1
  have c := gd_s hG h0 h1
  unfold pur
  omega
theorem gd_flp {s v M : Int} (h : -M ≤ v ∧ v ≤ M) : -M ≤ flp V s v ∧ flp V s v ≤ M := by
  unfold flp; split <;> omega
theorem sm_dom {f g : Int → Int} {M : Int} (n : Nat) (h : ∀ i : Int, 0 ≤ i → i < n → -(g i * M) ≤ f i ∧ f i ≤ g i * M) : -(sm g n * M) ≤ sm f n ∧ sm f n ≤ sm g n * M := by
  induction n with
  | zero => simp [sm]
  | succ n ih =>
    have h1 := ih (fun i a b => h i a (by omega))
    have h2 := h n (by omega) (by omega)
    have h3 : (sm g n + g n) * M = sm g n * M + g n * M := Int.add_mul _ _ _
    simp only [sm]
    omega
theorem sm_nn {f : Int → Int} (n : Nat) (h : ∀ i : Int, 0 ≤ f i) : 0 ≤ sm f n := by
  induction n with
  | zero => simp [sm]
  | succ n ih => have := h n; simp only [sm]; omega
theorem sm_le {f g : Int → Int} (n : Nat) (h : ∀ i : Int, f i ≤ g i) : sm f n ≤ sm g n := by
  induction n with
  | zero => simp [sm]
  | succ n ih => have := h n; simp only [sm]; omega
theorem sm_one {f : Int → Int} (n : Nat) (h : ∀ i : Int, f i ≤ 1) : sm f n ≤ n := by
  induction n with
  | zero => simp [sm]
  | succ n ih => have := h n; simp only [sm]; omega
theorem sm_pos {f : Int → Int} {n : Nat} (h : 0 < sm f n) : ∃ i : Int, 0 ≤ i ∧ i < n ∧ 0 < f i := by
  induction n with
  | zero => simp [sm] at h
  | succ n ih =>
    simp only [sm] at h
    by_cases h1 : 0 < sm f n
    · obtain ⟨i, a, b, c⟩ := ih h1
      exact ⟨i, a, by omega, c⟩
    · exact ⟨n, by omega, by omega, by omega⟩
theorem cn0_01 (V : Vw) (k s : Int) : 0 ≤ cn0 V k s ∧ cn0 V k s ≤ 1 := by unfold cn0; split <;> omega
theorem wc0_01 (V : Vw) (k s : Int) : 0 ≤ wc0 V k s ∧ wc0 V k s ≤ cn0 V k s := by
  unfold wc0 cn0
  split
  · rename_i h; rw [if_pos ⟨h.1, h.2.1⟩]; omega
  · split <;> omega
theorem cnt_rg (V : Vw) (k : Int) : 0 ≤ cnt V k ∧ cnt V k ≤ vn V := ⟨sm_nn _ fun i => (cn0_01 V k i).1, sm_one _ fun i => (cn0_01 V k i).2⟩
theorem wcn_rg (V : Vw) (k : Int) : 0 ≤ wcn V k ∧ wcn V k ≤ cnt V k := ⟨sm_nn _ fun i => (wc0_01 V k i).1, sm_le _ fun i => (wc0_01 V k i).2⟩
theorem acn_eq (V : Vw) (k : Int) (n : Nat) : sm (cn0 V k) n - sm (wc0 V k) n = sm (fun s => cn0 V k s - wc0 V k s) n := by
  induction n with
  | zero => simp [sm]
  | succ n ih => simp only [sm]; omega
theorem gd_wsu (hG : Good V) (k : Int) : -(wcn V k * 25839) ≤ wsu V k ∧ wsu V k ≤ wcn V k * 25839 := by
  refine sm_dom _ fun i h0 h1 => ?_
  unfold ws0 wc0
  split
  · have := gd_flp (V := V) (s := i) (gd_pur hG h0 h1); omega
  · omega
theorem gd_asu (hG : Good V) (k : Int) : -((cnt V k - wcn V k) * 25839) ≤ asu V k ∧ asu V k ≤ (cnt V k - wcn V k) * 25839 := by
  unfold cnt wcn
  rw [acn_eq]
  refine sm_dom _ fun i h0 h1 => ?_
  unfold as0 wc0 cn0
  have := gd_flp (V := V) (s := i) (gd_pur hG h0 h1)
  by_cases h2 : vG V 5 i = 0 ∧ pr V i = k
  · cases h3 : isW V i
    · simp only [h2, and_self, if_true, Bool.false_eq_true, and_false, if_false]; omega
    · simp only [h2, and_self, if_true, Bool.true_eq_false, and_false, if_false]; omega
  · have h4 : ∀ b : Bool, ¬ (vG V 5 i = 0 ∧ pr V i = k ∧ isW V i = b) := fun b h => h2 ⟨h.1, h.2.1⟩
    rw [if_neg (h4 _), if_neg h2, if_neg (h4 _)]; omega
theorem div_bd {a b M : Int} (hb : 0 < b) (h1 : -(b * M) ≤ a) (h2 : a ≤ b * M) : -M ≤ a / b ∧ a / b ≤ M := by
  have h3 : -M ≤ a / b := by
    rw [Int.le_ediv_iff_mul_le hb, Int.neg_mul, Int.mul_comm]; exact h1
  have h4 : a / b ≤ M := by
    have := Int.ediv_le_ediv hb h2
    rw [Int.mul_ediv_cancel_left _ (by omega)] at this
    exact this
  exact ⟨h3, h4⟩
theorem gd_est (hG : Good V) (L k : Int) : est V L k = NOH ∨ (-25839 ≤ est V L k ∧ est V L k ≤ 25839) := by
  unfold est
  split
  · exact Or.inl rfl
  · split
    · exact Or.inl rfl
    · rename_i h
      have h1 := wcn_rg V k
      have h2 := div_bd (a := wsu V k) (b := wcn V k) (M := 25839) (by omega) (gd_wsu hG k).1 (gd_wsu hG k).2
      have h3 := div_bd (a := asu V k) (b := cnt V k - wcn V k) (M := 25839) (by omega) (gd_asu hG k).1 (gd_asu hG k).2
      right
      omega
theorem insA_bd {v M : Int} (hv : -M ≤ v ∧ v ≤ M) : ∀ (n : Nat) (f : Int → Int), (∀ i : Int, -M ≤ f i ∧ f i ≤ M) → ∀ i : Int, -M ≤ insA v n f i ∧ insA v n f i ≤ M := by
  intro n
  induction n with
  | zero => intro f h i; simp only [insA, upd1]; split; exact hv; exact h i
  | succ n ih =>
    intro f h i
    simp only [insA]
    split
    · refine ih _ (fun j => ?_) i
      unfold upd1; split; exact h n; exact h j
    · unfold upd1; split; exact hv; exact h i
theorem estF_bd (hG : Good V) (L : Int) (k : Nat) : (∀ i : Int, -25839 ≤ (estF V L k).2 i ∧ (estF V L k).2 i ≤ 25839) ∧ (estF V L k).1 ≤ k := by
  induction k with
  | zero => exact ⟨fun i => by simp [estF], Nat.le_refl _⟩
  | succ k ih =>
    simp only [estF]
    split
    · exact ⟨ih.1, by omega⟩
    · rename_i h
      rcases gd_est hG L k with h1 | h1
      · exact absurd h1 h
      · exact ⟨insA_bd h1 _ _ ih.1, by have := ih.2; simp only []; omega⟩
theorem gd_ferr (hG : Good V) (L : Int) : -25839 ≤ ferr V L ∧ ferr V L ≤ 25839 := by
  unfold ferr; split
  · omega
  · exact (estF_bd hG L 144).1 _
theorem gd_err (hG : Good V) : -25839 ≤ err V ∧ err V ≤ 25839 := by
  unfold err; split
  · rename_i h; have := hG.2.2.2.2.2.2.2.1 h; omega
  · exact gd_ferr hG _
theorem sgn_rg (V : Vw) (s : Int) : sgn V s = 0 ∨ sgn V s = 1 ∨ sgn V s = -1 := by unfold sgn; split <;> (try split) <;> omega
theorem sgn_mul (V : Vw) (s x M : Int) (h : -M ≤ x ∧ x ≤ M) : -M ≤ sgn V s * x ∧ sgn V s * x ≤ M := by
  rcases sgn_rg V s with h1 | h1 | h1 <;> rw [h1] <;> omega
theorem gd_rs (hG : Good V) {s : Int} (h0 : 0 ≤ s) (h1 : s < vn V) : -51678 ≤ rs V s ∧ rs V s ≤ 51678 := by
  have a := gd_pur hG h0 h1
  have b := sgn_mul V s _ _ (gd_err hG)
  unfold rs; omega
theorem gd_rsu (hG : Good V) (k : Int) : -(cnt V k * 51678) ≤ rsu V k ∧ rsu V k ≤ cnt V k * 51678 := by
  refine sm_dom _ fun i h0 h1 => ?_
  unfold ru0 cn0
  split
  · have := gd_flp (V := V) (s := i) (gd_rs hG h0 h1); omega
  · omega
theorem gd_ris (hG : Good V) {k : Int} (h : 0 < cnt V k) : -51678 ≤ ris V k ∧ ris V k ≤ 51678 := div_bd h (gd_rsu hG k).1 (gd_rsu hG k).2
theorem gd_E (hG : Good V) {k : Int} (h : 0 < cnt V k) : (∃ s : Int, 0 ≤ s ∧ s < vn V ∧ vG V 5 s = 0 ∧ pr V s = k) ∧ 0 ≤ k ∧ k < 144 ∧ 0 ≤ k / 12 ∧ k / 12 < k % 12 ∧ k % 12 < vm V ∧ 0 < dk V k ∧ dk V k ≤ 99999 := by
  obtain ⟨s, h0, h1, h2⟩ := sm_pos h
  unfold cn0 at h2
  split at h2
  · rename_i h3
    have h4 := gd_pr hG h0 h1
    have h5 := gd_dk hG h0 h1
    have h6 := gd_sdst hG h0 h1
    rw [h3.2] at h4 h5
    exact ⟨⟨s, h0, h1, h3⟩, h4.1, h4.2.1, h4.2.2.1, h4.2.2.2.1, h4.2.2.2.2, by omega, by omega⟩
  · omega
/-- there are at most as many edges as sights -/
theorem rk_n (V : Vw) (k : Nat) : rk V k ≤ vn V := by
  have key : ∀ n : Nat, ct (fun j => decide (0 < sm (cn0 V j) n)) k ≤ n := by
    intro n
    induction n with
    | zero =>
      have : ∀ k : Nat, ct (fun j => decide (0 < sm (cn0 V j) 0)) k = 0 := by
        intro k
        induction k with
        | zero => rfl
        | succ k ih => simp only [ct, ih]; simp [sm]
      rw [this]; exact Nat.le_refl _
    | succ n ih =>
      have := (ct_one (p := fun j => decide (0 < sm (cn0 V j) n)) (q := fun j => decide (0 < sm (cn0 V j) (n + 1))) (c := pr V n) (by
        intro j hj
        have hj := of_decide_eq_true hj
        simp only [sm] at hj
        by_cases h : pr V n = j
        · exact Or.inr h.symm
        · have h2 : cn0 V j n = 0 := by unfold cn0; rw [if_neg (fun q => h q.2)]
          exact Or.inl (decide_eq_true (by omega))) k).1
      omega
  exact key (vn V)
end Good43
