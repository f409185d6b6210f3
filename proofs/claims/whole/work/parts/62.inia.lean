/-! ===== the making ===== -/
def Mk (n : Nat) (h : Nat → Nat → Bool) (I : IM) : Mem := (n, fun q k => i32 (I q (k : Int)), fun q k => if h q k = true then R0 8 q k else none, fun _ _ => 0)
/-- what is not made yet is empty -/
def Zr (n : Nat) (h : Nat → Nat → Bool) (I : IM) : Prop := ∀ q, n ≤ q → (∀ k, h q k = false) ∧ ∀ k, I q k = 0
/-- all of its references are written -/
def Fl (h : Nat → Nat → Bool) (q : Nat) : Prop := ∀ k, R0 8 q k ≠ none → h q k = true
def hs (h : Nat → Nat → Bool) (q k : Nat) : Nat → Nat → Bool := fun q' k' => h q' k' || (Nat.beq q' q && Nat.beq k' k)
theorem hs_self {h : Nat → Nat → Bool} {q k : Nat} : hs h q k q k = true := by unfold hs; simp
theorem hs_ne {h : Nat → Nat → Bool} {q q' k : Nat} (hq : q' ≠ q) : hs h q k q' = h q' := by
  funext k'; unfold hs
  have : Nat.beq q' q = false := by cases hb : Nat.beq q' q; rfl; exact absurd (Nat.eq_of_beq_eq_true hb) hq
  rw [this]; simp
theorem hs_k {h : Nat → Nat → Bool} {q q' k k' : Nat} (hk : h q' k' = true) : hs h q k q' k' = true := by unfold hs; rw [hk]; rfl
theorem Zr.hs {n : Nat} {h : Nat → Nat → Bool} {I : IM} {q k : Nat} (hz : Zr n h I) (hq : q < n) : Zr n (hs h q k) I := fun q' hq' => ⟨fun k' => by rw [hs_ne (by omega)]; exact (hz q' hq').1 k', (hz q' hq').2⟩
theorem Zr.up {n : Nat} {h : Nat → Nat → Bool} {I : IM} {q : Nat} {k v : Int} (hz : Zr n h I) (hq : q < n) : Zr n h (up I q k v) := fun q' hq' => ⟨(hz q' hq').1, fun k' => by rw [up_q (by omega)]; exact (hz q' hq').2 k'⟩
theorem Zr.le {n n' : Nat} {h : Nat → Nat → Bool} {I : IM} (hz : Zr n h I) (hq : n ≤ n') : Zr n' h I := fun q' hq' => hz q' (by omega)
section Ini62
variable {Q : Post} {n ci k q r t m : Nat} {a v : Int} {h : Nat → Nat → Bool} {I : IM}
theorem nw_Mk (hz : Zr n h I) : nwM (Mk n h I) = Mk (n + 1) h I := by
  have z := hz n (Nat.le_refl _)
  have e1 : (fun (q' k' : Nat) => if q' = n then (0 : Int32) else i32 (I q' (k' : Int))) = fun (q' k' : Nat) => i32 (I q' (k' : Int)) := by
    funext q' k'
    by_cases e : q' = n
    · rw [if_pos e, e, z.2]; rfl
    · rw [if_neg e]
  have e2 : (fun (q' k' : Nat) => if q' = n then none else (if h q' k' = true then R0 8 q' k' else none)) = fun q' k' => if h q' k' = true then R0 8 q' k' else none := by
    funext q' k'
    by_cases e : q' = n
    · rw [if_pos e, e, z.1]; rfl
    · rw [if_neg e]
  have e3 : (fun (q' _ : Nat) => if q' = n then (0 : Int64) else 0) = fun _ _ => 0 := by
    funext q' k'
    by_cases e : q' = n
    · rw [if_pos e]
    · rw [if_neg e]
  show (n + 1, (fun (q' k' : Nat) => if q' = n then (0 : Int32) else i32 (I q' (k' : Int))), (fun (q' k' : Nat) => if q' = n then none else (if h q' k' = true then R0 8 q' k' else none)), (fun (q' _ : Nat) => if q' = n then (0 : Int64) else 0)) = _
  rw [e1, e2, e3]
  rfl
theorem y_nO {f : Nat → Sem} (hk : kb n = (0, ci)) (hz : Zr n h I) (hf : f n (Mk (n + 1) h I) Q) : nO ci f (Mk n h I) Q := by
  have e := kb_of hk (by simp)
  refine ⟨e.1, e.2, ?_⟩
  show f n (nwM (Mk n h I)) Q
  rw [nw_Mk hz]; exact hf
theorem y_nA {f : Nat → Sem} {c : Int32} (hk : kb n = (t, m)) (ht : t ≠ 9) (hm : m < 100000) (hc : c = Int32.ofNat m) (hz : Zr n h I) (hf : f n (Mk (n + 1) h I) Q) : nA t c f (Mk n h I) Q := by
  have e := kb_of hk ht
  refine ⟨⟨m, hm, hc, e.1⟩, e.2, ?_⟩
  show f n (nwM (Mk n h I)) Q
  rw [nw_Mk hz]; exact hf
theorem y_nB {f : Nat → Sem} {c : Int32} {B : Nat} (hk : kb n = (t, m)) (ht : t ≠ 9) (hm : m ≤ B) (hc : c = Int32.ofNat m) (hz : Zr n h I) (hf : f n (Mk (n + 1) h I) Q) : nB t B c f (Mk n h I) Q := by
  have e := kb_of hk ht
  refine ⟨⟨m, hm, hc, e.1⟩, e.2, ?_⟩
  show f n (nwM (Mk n h I)) Q
  rw [nw_Mk hz]; exact hf
theorem wR_Mk (hr : R0 8 q k = some r) : wR (Mk n h I) q k (some r) = Mk n (hs h q k) I := by
  simp only [wR, Mk]
  congr 3
  funext q' k'
  by_cases e : q' = q ∧ k' = k
  · rw [if_pos e, e.1, e.2, if_pos hs_self, hr]
  · rw [if_neg e]
    have : hs h q k q' k' = h q' k' := by
      unfold hs
      have : (Nat.beq q' q && Nat.beq k' k) = false := by
        cases hb : (Nat.beq q' q && Nat.beq k' k)
        · rfl
        · have h3 := Bool.and_eq_true_iff.mp hb
          exact absurd ⟨Nat.eq_of_beq_eq_true h3.1, Nat.eq_of_beq_eq_true h3.2⟩ e
      rw [this, Bool.or_false]
    rw [this]
theorem wI_Mk : wI (Mk n h I) q k (i32 v) = Mk n h (up I q k v) := by
  simp only [wI, Mk]
  congr 2
  funext q' k'
  simp only [up, Int.natCast_inj]
  split <;> rfl
theorem y_pR {f : Sem} (hk : kb q = (0, ci)) (hq : q < n) (hr : R0 8 q k = some r) (hf : f (Mk n (hs h q k) I) Q) : pR ci k q (some r) f (Mk n h I) Q :=
  ⟨(kb_of hk (by simp)).1, hq, by rw [wR_Mk hr]; exact hf⟩
theorem y_sR {f : Sem} (hk : kb q = (5, m)) (hq : q < n) (hr : R0 8 q k = some r) (hkm : k < m) (hm : m < 1000) (hkr : kb r = (0, 6)) (hrn : r < n) (hf : f (Mk n (hs h q k) I) Q) : sR q (i32 k) r f (Mk n h I) Q := by
  have e := kb_of hk (by simp)
  refine ⟨by rw [e.1], hq, by rw [e.1]; exact i32_in (by omega) (by simpa using hkm) (by omega), (kb_of hkr (by simp)).1, hrn, ?_⟩
  rw [i32_clamp (by omega) (by omega), Int.toNat_natCast, wR_Mk hr]
  exact hf
theorem y_pI {f : Sem} (hk : kb q = (0, ci)) (hq : q < n) (hf : f (Mk n h (up I q k v)) Q) : pI ci k q (i32 v) f (Mk n h I) Q :=
  ⟨(kb_of hk (by simp)).1, hq, by rw [wI_Mk]; exact hf⟩
theorem y_pZ {f : Sem} (hk : kb q = (0, ci)) (hq : q < n) (hv : v = 0 ∨ v = 1) (hf : f (Mk n h (up I q k v)) Q) : pZ ci k q (i32 v) f (Mk n h I) Q :=
  ⟨(kb_of hk (by simp)).1, hq, z01 hv, by rw [wI_Mk]; exact hf⟩
theorem y_gR {f : Nat → Sem} (hk : kb q = (0, ci)) (hq : q < n) (hh : h q k = true) (hr : R0 8 q k = some r) (hf : f r (Mk n h I) Q) : gR ci k q f (Mk n h I) Q :=
  ⟨(kb_of hk (by simp)).1, hq, r, by show (if h q k = true then R0 8 q k else none) = some r; rw [if_pos hh, hr], hf⟩
theorem y_ob {f : Sem} (hk : kb q = (0, ci)) (hq : q < n) (hf : f (Mk n h I) Q) : ob ci q f (Mk n h I) Q := ⟨(kb_of hk (by simp)).1, hq, hf⟩
theorem y_aL {f : Int32 → Sem} (hk : kb q = (t, m)) (ht : t = 1 ∨ t = 5) (hq : q < n) (hf : f (i32 (m : Int)) (Mk n h I) Q) : aL q f (Mk n h I) Q := by
  have e := kb_of hk (by rcases ht with rfl | rfl <;> simp)
  refine ⟨Or.inl ⟨by rw [e.1]; exact ht, hq⟩, ?_⟩
  rw [e.1]
  show f (Int32.ofNat m) _ _
  rw [← Int32.ofInt_eq_ofNat]
  exact hf
theorem y_sA {f : Sem} (hk : kb q = (1, m)) (hq : q < n) (h2 : 0 ≤ a) (h3 : a < m) (h4 : a < 2147483648) (hf : f (Mk n h (up I q a v)) Q) : sA q (i32 a) (i32 v) f (Mk n h I) Q := by
  have e := kb_of hk (by simp)
  refine ⟨by rw [e.1], hq, by rw [e.1]; exact i32_in h2 h3 h4, ?_⟩
  rw [i32_clamp h2 h4, show wI (Mk n h I) q a.toNat (i32 v) = Mk n h (up I q (a.toNat : Nat) v) from wI_Mk, Int.toNat_of_nonneg h2]
  exact hf
theorem y_aLs {f : Int32 → Sem} {μ : Mem} {i : Nat} (hi : i < 3) (hf : f (i32 4) μ Q) : aL (1000 + i) f μ Q := by
  have hk : kd (1000 + i) = (6, 4) := by rcases (show i = 0 ∨ i = 1 ∨ i = 2 by omega) with rfl | rfl | rfl <;> decide +kernel
  refine ⟨Or.inr (by rw [hk]), ?_⟩
  rw [hk]
  exact hf
theorem y_aIs {f : Int32 → Sem} {μ : Mem} {i : Nat} (hi : i < 3) (h2 : 0 ≤ a) (h3 : a < 4) (hf : f (sI (1000 + i) a.toNat) μ Q) : aI (1000 + i) (i32 a) f μ Q := by
  have hk : kd (1000 + i) = (6, 4) := by rcases (show i = 0 ∨ i = 1 ∨ i = 2 by omega) with rfl | rfl | rfl <;> decide +kernel
  refine ⟨by rw [hk]; exact i32_in h2 h3 (by omega), Or.inr ⟨by rw [hk], ?_⟩⟩
  rw [i32_clamp h2 (by omega)]
  exact hf
def dfl (i : Int) : Int := if i = 0 then 1000 else if i = 3 then 10 else 0
theorem y_cpS (h1 : kb q = (1, 4)) (hq : q < n) (hQ : ∀ I' : IM, (∀ p, p ≠ q → I' p = I p) → (∀ i : Int, 0 ≤ i → i < 4 → I' q i = dfl i) → Q (.inl none) (Mk n h I')) : SX10_copyRow [.ref q, .ref 1002] (Mk n h I) Q := by
  refine x_in (Nat.le_of_ble_eq_true rfl) ?_
  dsimp only [bX10_copyRow, bX10_copyRow_0]
  refine x_for 4 (fun i av μ => ∃ I1 : IM, av = [.ref q, .ref 1002, .int (i32 i)] ∧ μ = Mk n h I1 ∧ (∀ p, p ≠ q → I1 p = I p) ∧ (∀ j : Int, 0 ≤ j → j < i → I1 q j = dfl j)) ?_ ?_ (Nat.zero_le _) ⟨I, rfl, rfl, fun _ _ => rfl, fun j h0 hj => by omega⟩
  · rintro i av μ hi ⟨I1, rfl, rfl, f1, g1⟩ hJ
    dsimp only [bX10_copyRow, bX10_copyRow_1]
    refine y_aL h1 (Or.inl rfl) hq (x_le (by omega) (by omega) (fun h => by omega) (fun _ => ?_))
    refine y_aLs (i := 2) (by omega) (x_le (by omega) (by omega) (fun h => by omega) (fun _ => y_aIs (i := 2) (by omega) (by omega) (by omega) ?_))
    rw [show sI (1000 + 2) ((i : Int)).toNat = _ from sI_fi i hi]
    refine y_sA h1 hq (by omega) (by omega) (by omega) (hJ _ _ ⟨_, ?_, rfl, fun p a => by rw [up_qf a, f1 p a], fun j h0 hj => ?_⟩)
    · rw [show (1 : Int32) = i32 1 from rfl, i32_add]; rfl
    · rw [up_at]
      by_cases e : j = i
      · rw [if_pos e, e]; rfl
      · rw [if_neg e]; exact g1 j h0 (by omega)
  · rintro av μ ⟨I1, rfl, rfl, f1, g1⟩
    dsimp only [bX10_copyRow, bX10_copyRow_1]
    exact y_aL h1 (Or.inl rfl) hq (x_le (by omega) (by omega) (fun _ => x_rV (hQ I1 f1 g1)) (fun h => by omega))
theorem R0_full : ∀ q ∈ stLs, ∀ d, 1 ≤ d → d < 11 → ∀ k, R0 8 (q + d) k = none := by
  have key : ∀ q ∈ stLs, ∀ d, d < 11 → 1 ≤ d → rb (q + d) = [] ∧ ¬ q + d = 171 := by decide +kernel
  intro q hq d h1 h2 k
  have e := key q hq d h2 h1
  unfold R0
  rw [e.1]
  have : (Nat.beq (q + d) 171 && Nat.beq k 1) = false := by
    cases hb : Nat.beq (q + d) 171
    · rfl
    · exact absurd (Nat.eq_of_beq_eq_true hb) e.2
  rw [this]
  rfl
theorem fl_none (hn : ∀ k, R0 8 q k = none) : Fl h q := fun k hk => absurd (hn k) hk
theorem sp_init6 (hs6 : q ∈ stLs) (hz : Zr (q + 1) h I) (h0 : ∀ k, I q k = 0)
    (hQ : ∀ (h' : Nat → Nat → Bool) (I' : IM), (∀ q', q' < q → h' q' = h q') → (∀ q', q' ≠ q + 1 → ∀ k, I' q' k = I q' k) → (∀ q', q ≤ q' → q' < q + 11 → Fl h' q') → Zr (q + 11) h' I' → (∀ i : Int, 0 ≤ i → i < 4 → I' (q + 1) i = dfl i) → Q (.inl none) (Mk (q + 11) h' I')) : SX6_init [.ref q] (Mk (q + 1) h I) Q := by
  refine x_in (Nat.le_of_ble_eq_true rfl) ?_
  dsimp only [bX6_init, bX6_init_0]
  obtain ⟨s0, s1, s2, s3, s4, s5⟩ := kb_st q hs6
  have r : ∀ {k r : Nat}, ([some (q + 1), none, none, some (q + 2), some (q + 3), some (q + 4), none, some (q + 5), some (q + 6), some (q + 7), some (q + 8), some (q + 9), some (q + 10)] : List (Option Nat)).getD k none = some r → R0 8 q k = some r := fun h => R0_st hs6 h
  refine y_nA s1 (by decide) (by decide) rfl hz ?_
  have z2 := hz.le (n' := q + 1 + 1) (by omega)
  refine y_pR s0 (by omega) (r rfl) ?_
  have z2 := z2.hs (q := q) (k := 0) (by omega)
  rw [show (0 : Int32) = i32 0 from rfl]
  refine y_pZ s0 (by omega) (by omega) (y_pI s0 (by omega) ?_)
  have eI : up (up I q ((1 : Nat) : Int) 0) q ((2 : Nat) : Int) 0 = I := by
    funext q' k'
    simp only [up]
    split
    · rename_i e; rw [e.1, h0]
    · split
      · rename_i e; rw [e.1, h0]
      · rfl
  rw [eI]
  refine y_nA (s2 2 (by omega) (by omega)) (by decide) (by decide) rfl z2 ?_
  have z3 := z2.le (n' := q + 2 + 1) (by omega)
  refine y_pR s0 (by omega) (r rfl) ?_
  have z3 := z3.hs (q := q) (k := 3) (by omega)
  refine y_nA (s2 3 (by omega) (by omega)) (by decide) (by decide) rfl z3 ?_
  have z4 := z3.le (n' := q + 3 + 1) (by omega)
  refine y_pR s0 (by omega) (r rfl) ?_
  have z4 := z4.hs (q := q) (k := 4) (by omega)
  refine y_nA (s2 4 (by omega) (by omega)) (by decide) (by decide) rfl z4 ?_
  have z5 := z4.le (n' := q + 4 + 1) (by omega)
  refine y_pR s0 (by omega) (r rfl) ?_
  have z5 := z5.hs (q := q) (k := 5) (by omega)
  refine y_pI s0 (by omega) ?_
  have eI2 : up I q ((6 : Nat) : Int) 0 = I := by
    funext q' k'
    simp only [up]
    split
    · rename_i e; rw [e.1, h0]
    · rfl
  rw [eI2]
  refine y_nA (s3 5 (by omega) (by omega)) (by decide) (by decide) rfl z5 ?_
  have z6 := z5.le (n' := q + 5 + 1) (by omega)
  refine y_pR s0 (by omega) (r rfl) ?_
  have z6 := z6.hs (q := q) (k := 7) (by omega)
  refine y_nA (s3 6 (by omega) (by omega)) (by decide) (by decide) rfl z6 ?_
  have z7 := z6.le (n' := q + 6 + 1) (by omega)
  refine y_pR s0 (by omega) (r rfl) ?_
  have z7 := z7.hs (q := q) (k := 8) (by omega)
  refine y_nA (s3 7 (by omega) (by omega)) (by decide) (by decide) rfl z7 ?_
  have z8 := z7.le (n' := q + 7 + 1) (by omega)
  refine y_pR s0 (by omega) (r rfl) ?_
  have z8 := z8.hs (q := q) (k := 9) (by omega)
  refine y_nA (s3 8 (by omega) (by omega)) (by decide) (by decide) rfl z8 ?_
  have z9 := z8.le (n' := q + 8 + 1) (by omega)
  refine y_pR s0 (by omega) (r rfl) ?_
  have z9 := z9.hs (q := q) (k := 10) (by omega)
  refine y_nA (s3 9 (by omega) (by omega)) (by decide) (by decide) rfl z9 ?_
  have za := z9.le (n' := q + 9 + 1) (by omega)
  refine y_pR s0 (by omega) (r rfl) ?_
  have za := za.hs (q := q) (k := 11) (by omega)
  refine y_nA (s3 10 (by omega) (by omega)) (by decide) (by decide) rfl za ?_
  have zb := za.le (n' := q + 10 + 1) (by omega)
  refine y_pR s0 (by omega) (r rfl) ?_
  have zb := zb.hs (q := q) (k := 12) (by omega)
  have frh : ∀ q', q' ≠ q → hs (hs (hs (hs (hs (hs (hs (hs (hs (hs h q 0) q 3) q 4) q 5) q 7) q 8) q 9) q 10) q 11) q 12 q' = h q' := fun q' hq' => by rw [hs_ne hq', hs_ne hq', hs_ne hq', hs_ne hq', hs_ne hq', hs_ne hq', hs_ne hq', hs_ne hq', hs_ne hq', hs_ne hq']
  have flq : Fl (hs (hs (hs (hs (hs (hs (hs (hs (hs (hs h q 0) q 3) q 4) q 5) q 7) q 8) q 9) q 10) q 11) q 12) q := by
    intro k hk
    have e : R0 8 q k = ([some (q + 1), none, none, some (q + 2), some (q + 3), some (q + 4), none, some (q + 5), some (q + 6), some (q + 7), some (q + 8), some (q + 9), some (q + 10)] : List (Option Nat)).getD k none := by
      unfold R0
      have : (Nat.beq q 171 && Nat.beq k 1) = false := by simp [s5]
      rw [this, s4]; rfl
    rw [e] at hk
    match k, hk with
    | 0, _ | 3, _ | 4, _ | 5, _ | 7, _ | 8, _ | 9, _ | 10, _ | 11, _ | 12, _ => simp [hs]
    | 1, hk | 2, hk | 6, hk => exact absurd rfl hk
    | k + 13, hk => exact absurd rfl hk
  have h00 : hs (hs (hs (hs (hs (hs (hs (hs (hs (hs h q 0) q 3) q 4) q 5) q 7) q 8) q 9) q 10) q 11) q 12 q 0 = true := flq 0 (by rw [r rfl]; simp)
  generalize hs (hs (hs (hs (hs (hs (hs (hs (hs (hs h q 0) q 3) q 4) q 5) q 7) q 8) q 9) q 10) q 11) q 12 = h' at *
  refine y_gR s0 (by omega) h00 (r (k := 0) (r := q + 1) rfl) (x_cV (y_cpS s1 (by omega) fun I' f' g' => x_rV (hQ h' I' (fun q' hq' => frh q' (by omega)) (fun q' hq' k => by rw [f' q' hq']) (fun q' a b => ?_) (fun q' hq' => ⟨(zb q' hq').1, fun k => by rw [f' q' (by omega)]; exact (zb q' hq').2 k⟩) g')))
  by_cases e : q' = q
  · rw [e]; exact flq
  · obtain ⟨d, rfl⟩ : ∃ d, q' = q + d := ⟨q' - q, by omega⟩
    exact fl_none (R0_full q hs6 d (by omega) (by omega))
end Ini62
