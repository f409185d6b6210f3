/-! ===== what is printed ===== -/
/-- the class printed -/
def Cx (I I' : IM) : Prop := (∀ q, q < 3 ∨ (4 < q ∧ q < 19) ∨ (30 ≤ q ∧ q < 153) ∨ q = 170 ∨ 200 ≤ q → I' q = I q) ∧ dg0 I'
/-- the reference printed -/
def Ry (I I' : IM) : Prop := (∀ q, q < 200 ∨ q = 201 ∨ q = 205 ∨ q = 206 ∨ q = 215 → I' q = I q) ∧ ∀ k, k = 7 ∨ k = 8 ∨ k = 20 ∨ k = 27 ∨ k = 28 → I' 200 k = I 200 k
def CqO (S : ST) (as : List Value) (e : Nat) (I J : IM) (o : Option (List Int)) : Prop := ∀ Q : Post, (∀ l, o = some l → ∀ (I' : IM) (e' : Nat), e' ∈ stLs → Cx I I' → Tx I' 3 4 l → Q (.inl (some (.int (i32 (l.length : Int))))) (ME e' I' J)) → (o = none → ∀ (I' : IM) (e' : Nat), e' ∈ stLs → Cf I I' → Q (.inr 1) (ME e' I' J)) → S as (ME e I J) Q
def RqO (S : ST) (as : List Value) (e : Nat) (I J : IM) (o : Option (List Int)) : Prop := ∀ Q : Post, (∀ l, o = some l → ∀ I' : IM, Ry I I' → Ty I' 31 216 l → I' 200 0 = 0 → Q (.inl (some (.int (i32 (l.length : Int))))) (ME e I' J)) → (o = none → ∀ (I' : IM) (v : Int), Rfr I I' → I' 200 0 = 1 → Q (.inl (some (.int (i32 v)))) (ME e I' J)) → S as (ME e I J) Q
theorem Ox.cx {I I' : IM} (h : Ox I I') (hd : dg0 I) : Cx I I' := ⟨fun q hq => h q (by omega) (by omega), fun x hx => by rw [h 190 (by omega) (by omega)]; exact hd x hx⟩
theorem Cf.cx {I I1 I' : IM} (h : Cf I I1) (h2 : Ox I1 I') : Cx I I' := ⟨fun q hq => by rw [h2 q (by omega) (by omega), h.1 q (by omega)], fun x hx => by rw [h2 190 (by omega) (by omega)]; exact h.2 x hx⟩
theorem Rfr.ry {I I1 I' : IM} (h : Rfr I I1) (h2 : Oy I1 I') : Ry I I' := ⟨fun q hq => by rw [h2.1 q (by omega) (by omega), h.1 q (by omega)], fun k hk => by rw [h2.2 k (by omega), h.2 k (by omega)]⟩
theorem Ox.cn {I I' : IM} {V : Vw} {H : Hw} (h : Ox I I') (hC : Cn I V H) : Cn I' V H := by
  obtain ⟨hG, hGH, hB, hR, hH, hW, hd⟩ := hC
  exact ⟨hG, hGH, hB, hR.keep fun d a => h _ (by omega) (by omega), hH.keep fun d a => h _ (by omega) (by omega), hW.keep fun d a => h _ (by omega) (by omega), fun x hx => by rw [h 190 (by omega) (by omega)]; exact hd x hx⟩
theorem Oy.rn {I I' : IM} {V : Vw} {H : Hw} (h : Oy I I') (hC : Rn I V H) : Rn I' V H := by
  obtain ⟨hG, hGH, hB, hW, hH⟩ := hC
  exact ⟨hG, hGH, hB, hW.keep (h.1 201 (by omega) (by omega)), hH.keep (h.1 201 (by omega) (by omega))⟩
def pmT (V : Vw) (H : Hw) : Nat → List Int
  | 0 => []
  | k + 1 => ((((pmT V H k ++ (if 0 < k then [32] else [])) ++ nam (vN V k)) ++ [58]) ++ (if hh H k = 1 then num (hv H k) else [63])) ++ (if hb H k = 1 then [42] else [])
noncomputable def plT (V : Vw) (k : Int) : Nat → List Int
  | 0 => []
  | i + 1 => (plT V k i ++ (if 0 < i then [47] else [])) ++ nam (vN V (lM V k i))
noncomputable def plA (V : Vw) (l : Int) : Option (List Int) := if 0 ≤ l ∧ l < nL V then some (((plT V (lke V l) (lD V (lke V l) + 1) ++ [32]) ++ num (lC V (lke V l))) ++ (if clo V (vS V 3) (lke V l) = true then [] else [33])) else none
def psA (V : Vw) (s : Int) : Option (List Int) := if 0 ≤ s ∧ s < vn V then some (((((((((if vG V 5 s = 0 then [] else strI 12) ++ strI 13) ++ nam (vN V (vG V 0 s))) ++ [32]) ++ nam (vN V (vG V 1 s))) ++ (if vG V 2 s = 0 then strI 14 else strI 15)) ++ num (vG V 3 s)) ++ strI 16) ++ num (vG V 4 s)) else none
theorem nam_len (l : List Nat) : (nam l).length = l.length := by simp [nam]
section Out58d
variable {e : Nat} {I J : IM} {Q : Post} {V : Vw} {H : Hw} {a b c v s : Int} {l : List Int}
theorem gd_nm (hG : Good V) {k : Int} (h0 : 0 ≤ k) (h1 : k < vm V) : okName (vN V k) := (hG.2.2.2.2.2.2.2.2.2.1 k h0 h1).2
theorem pmT_len (hG : Good V) (hB : HB (vm V) H 700000000) : ∀ k : Nat, k ≤ vm V → (pmT V H k).length ≤ 20 * k := by
  intro k
  induction k with
  | zero => intro _; simp [pmT]
  | succ k ih =>
    intro hk
    have := ih (by omega)
    have n := (gd_nm hG (k := k) (by omega) (by omega)).2.1
    have h1 : (if hh H k = 1 then num (hv H k) else [63]).length ≤ 11 := by
      split
      · rename_i h
        have := hB k (by omega) (by omega) h
        exact num_len (by omega)
      · simp
    have h2 : (if hb H k = 1 then ([42] : List Int) else []).length ≤ 1 := by split <;> simp
    have h3 : (if 0 < k then ([32] : List Int) else []).length ≤ 1 := by split <;> simp
    simp only [pmT, List.length_append, nam_len, List.length_cons, List.length_nil]
    omega
theorem plT_len (hG : Good V) {k : Int} (hk : ∀ i : Nat, i ≤ lD V k → 0 ≤ lM V k i ∧ lM V k i < vm V) : ∀ i : Nat, i ≤ lD V k + 1 → (plT V k i).length ≤ 7 * i := by
  intro i
  induction i with
  | zero => intro _; simp [plT]
  | succ i ih =>
    intro h
    have := ih (by omega)
    have g := hk i (by omega)
    have n := (gd_nm hG g.1 g.2).2.1
    have h3 : (if 0 < i then ([47] : List Int) else []).length ≤ 1 := by split <;> simp
    simp only [plT, List.length_append, nam_len]
    omega
theorem cq_printMarks (h : Cn I V H) (he : e ∈ stLs) : CqO SX10_printMarks [.ref 0] e I J (some (pmT V H (vm V))) := by
  intro Q hQ _
  have hQ := hQ _ rfl
  have hd := h.2.2.2.2.2.2
  have m := h.1.1
  refine x_in (Nat.le_of_ble_eq_true rfl) ?_
  dsimp only [bX10_printMarks, bX10_printMarks_0]
  ((try rw [show (0 : Int32) = i32 (0) from rfl]); (try simp only [i32_add, i32_sub, i32_mul, i32_neg]))
  refine x_gR rfl rfl (x_pI rfl ?_)
  rw [show ((1 : Nat) : Int) = 1 from rfl]
  refine x_for (vm V) (fun k av μ => ∃ I1 : IM, av = [.ref 0, .int (i32 k)] ∧ μ = ME e I1 J ∧ Ox I I1 ∧ Tx I1 3 4 (pmT V H k)) ?_ ?_ (Nat.zero_le _) ⟨_, rfl, rfl, fun q a b => by rw [up_qf (by omega)], Tx0⟩
  · rintro k av μ hk ⟨I1, rfl, rfl, f1, T1⟩ hJ
    have len := pmT_len h.1 h.2.2.1 k (by omega)
    have n := gd_nm h.1 (k := k) (by omega) (by omega)
    dsimp only [bX10_printMarks, bX10_printMarks_1]
    ((try rw [show (0 : Int32) = i32 (0) from rfl]); (try rw [show (32 : Int32) = i32 (32) from rfl]); (try simp only [i32_add, i32_sub, i32_mul, i32_neg]))
    have h1 := f1.cn h
    refine x_gR rfl rfl (x_gI rfl ?_)
    rw [show I1 5 ((0 : Nat) : Int) = (vm V : Int) from h1.2.2.2.2.2.1.1]
    have key : ∀ (I2 : IM), Ox I I2 → Tx I2 3 4 (pmT V H k ++ (if 0 < k then [32] else [])) → fx bX10_printMarks 2 [.ref 0, .int (i32 k)] (ME e I2 J) Q := by
      intro I2 f2 T2
      have hs : (if 0 < k then ([32] : List Int) else []).length ≤ 1 := by split <;> simp
      refine fx_in ?_
      dsimp only [bX10_printMarks, bX10_printMarks_2]
      ((try rw [show (0 : Int32) = i32 (0) from rfl]); (try rw [show (1 : Int32) = i32 (1) from rfl]); (try rw [show (58 : Int32) = i32 (58) from rfl]); (try rw [show (63 : Int32) = i32 (63) from rfl]); (try rw [show (42 : Int32) = i32 (42) from rfl]); (try simp only [i32_add, i32_sub, i32_mul, i32_neg]))
      have h2 := f2.cn h
      refine x_gR rfl rfl (x_gR rfl rfl (x_ob rfl (x_cV (sp_X9_writeName h2.1 h2.2.2.2.2.2.1 (by omega) (by omega) T2 (by simp; omega) fun I3 f3 T3 => ?_))))
      have f3 := f2.trans f3
      refine x_gR rfl rfl (x_ob rfl (x_cV (o_add T3 (by simp [nam_len]; have := n.2.1; omega) (by omega) fun I4 f4 T4 => ?_)))
      have f4 := f3.trans f4
      have h4 := f4.cn h
      have len4 : ((pmT V H k ++ (if 0 < k then [32] else []) ++ nam (vN V k)) ++ [58]).length ≤ 20 * k + 8 := by simp only [List.length_append, nam_len, List.length_cons, List.length_nil]; have := n.2.1; omega
      -- the star
      have key2 : ∀ (I5 : IM) (t : List Int), Ox I I5 → Tx I5 3 4 (((pmT V H k ++ (if 0 < k then [32] else []) ++ nam (vN V k)) ++ [58]) ++ t) → t.length ≤ 11 → t = (if hh H k = 1 then num (hv H k) else [63]) →
          (gR 10 3 0 fun r7 => ob 6 r7 (cI SX6_isBench [.ref r7, .int (i32 k)] fun v8 => br (v8 = i32 0) (fx bX10_printMarks 1 [.ref 0, .int (i32 ((k : Int) + 1))]) (gR 10 1 0 fun r9 => ob 7 r9 (cV SX7_add [.ref r9, .int (i32 42)] <| fx bX10_printMarks 1 [.ref 0, .int (i32 ((k : Int) + 1))])))) (ME e I5 J) Q := by
        intro I5 t f5 T5 lt et
        have h5 := f5.cn h
        have b01 := (h5.2.1 k (by omega) (by omega)).1
        refine x_gR rfl rfl (x_obs st8 (x_cI (sp_X6_isBench he st8 h5.2.1 h5.2.2.2.2.1 (by omega) ?_)))
        refine x_eq (by omega) (by omega) (fun hz => ?_) (fun hz => ?_)
        · refine hJ _ _ ⟨I5, rfl, rfl, f5, ?_⟩
          simp only [pmT]
          rw [if_neg (show ¬ hb H k = 1 by omega), List.append_nil, ← et]
          exact T5
        · refine x_gR rfl rfl (x_ob rfl (x_cV (o_add T5 (by rw [List.length_append]; omega) (by omega) fun I6 f6 T6 => ?_)))
          refine hJ _ _ ⟨I6, rfl, rfl, f5.trans f6, ?_⟩
          simp only [pmT]
          rw [if_pos (show hb H k = 1 by omega), ← et]
          exact T6
      have z01 := (h.2.1 k (by omega) (by omega)).2.1
      refine x_gR rfl rfl (x_obs st8 (x_cI (sp_X6_hasHeight he st8 h4.2.1 h4.2.2.2.2.1 (by omega) ?_)))
      refine x_eq (by omega) (by omega) (fun hz => ?_) (fun hz => ?_)
      · refine x_gR rfl rfl (x_ob rfl (x_cV (o_add T4 (by omega) (by omega) fun I5 f5 T5 => ?_)))
        exact key2 I5 _ (f4.trans f5) T5 (by simp) (by rw [if_neg (by omega)])
      · have hb := h.2.2.1 k (by omega) (by omega) (by omega)
        refine x_gR rfl rfl (x_gR rfl rfl (x_obs st8 (x_cI (sp_X6_heightOf he st8 h4.2.1 h4.2.2.2.2.1 (by omega) ?_))))
        dsimp only
        rw [show hgt H k = hv H k by unfold hgt; rw [if_pos (by omega)]]
        refine x_ob rfl (x_cV (sp_X7_addNumber (by omega) T4 (by omega) fun I5 f5 T5 => ?_))
        exact key2 I5 _ (f4.trans f5) T5 (num_len (by omega)) (by rw [if_pos (by omega)])
    refine x_le (by omega) (by omega) (fun h => by omega) (fun _ => x_le (by omega) (by omega) (fun hz => ?_) (fun hz => ?_))
    · refine key I1 f1 ?_
      rw [if_neg (by omega), List.append_nil]; exact T1
    · refine x_gR rfl rfl (x_ob rfl (x_cV (o_add T1 (by omega) (by omega) fun I2 f2 T2 => ?_)))
      refine key I2 (f1.trans f2) ?_
      rw [if_pos (by omega)]; exact T2
  · rintro av μ ⟨I1, rfl, rfl, f1, T1⟩
    dsimp only [bX10_printMarks, bX10_printMarks_1]
    have h1 := f1.cn h
    refine x_gR rfl rfl (x_gI rfl ?_)
    rw [show I1 5 ((0 : Nat) : Int) = (vm V : Int) from h1.2.2.2.2.2.1.1]
    refine x_le (by omega) (by omega) (fun _ => x_gR rfl rfl (x_gI rfl ?_)) (fun h => by omega)
    rw [show I1 3 ((1 : Nat) : Int) = _ from T1.1]
    exact x_rI (hQ I1 e he (f1.cx hd) T1)
theorem rq_printMarks (h : Rn I V H) : RqO SX11_printMarks [.ref 200] e I J (some (pmT V H (vm V))) := by
  intro Q hQ _
  have hQ := hQ _ rfl
  have m := h.1.1
  refine x_in (Nat.le_of_ble_eq_true rfl) ?_
  dsimp only [bX11_printMarks, bX11_printMarks_0]
  ((try rw [show (0 : Int32) = i32 (0) from rfl]); (try simp only [i32_add, i32_sub, i32_mul, i32_neg]))
  refine x_pI rfl (x_pI rfl ?_)
  rw [show ((0 : Nat) : Int) = 0 from rfl, show ((31 : Nat) : Int) = 31 from rfl]
  have r0 : Rfr I (up I 200 0 0) := Rfr.told
  have t0 : (up I 200 0 0) 200 0 = 0 := up_self
  have h0 := h.rfr r0
  generalize up I 200 0 0 = I0 at *
  refine x_for (vm V) (fun k av μ => ∃ I1 : IM, av = [.ref 200, .int (i32 k)] ∧ μ = ME e I1 J ∧ Oy I0 I1 ∧ Ty I1 31 216 (pmT V H k)) ?_ ?_ (Nat.zero_le _) ⟨_, rfl, rfl, ⟨fun q a b => by rw [up_qf a], fun k a => up_k a⟩, Ty0⟩
  · rintro k av μ hk ⟨I1, rfl, rfl, f1, T1⟩ hJ
    have len := pmT_len h.1 h.2.2.1 k (by omega)
    have n := gd_nm h.1 (k := k) (by omega) (by omega)
    dsimp only [bX11_printMarks, bX11_printMarks_1]
    ((try rw [show (0 : Int32) = i32 (0) from rfl]); (try rw [show (32 : Int32) = i32 (32) from rfl]); (try simp only [i32_add, i32_sub, i32_mul, i32_neg]))
    have h1 := f1.rn h0
    have key : ∀ (I2 : IM), Oy I0 I2 → Ty I2 31 216 (pmT V H k ++ (if 0 < k then [32] else [])) → fx bX11_printMarks 2 [.ref 200, .int (i32 k)] (ME e I2 J) Q := by
      intro I2 f2 T2
      have hs : (if 0 < k then ([32] : List Int) else []).length ≤ 1 := by split <;> simp
      refine fx_in ?_
      dsimp only [bX11_printMarks, bX11_printMarks_2]
      ((try rw [show (0 : Int32) = i32 (0) from rfl]); (try rw [show (1 : Int32) = i32 (1) from rfl]); (try rw [show (4 : Int32) = i32 (4) from rfl]); (try rw [show (58 : Int32) = i32 (58) from rfl]); (try rw [show (63 : Int32) = i32 (63) from rfl]); (try rw [show (42 : Int32) = i32 (42) from rfl]); (try simp only [i32_add, i32_sub, i32_mul, i32_neg]))
      have h2 := f2.rn h0
      refine x_ob rfl (x_cI (sp_X11_of (by omega) (by omega) (by omega) (by omega) ?_))
      rw [W_nm h2.2.2.2.1 (by omega) (by omega)]
      refine x_ob rfl (x_cV (sp_X11_saysLetters 7 (vN V k) _ I2 _ n.1 (by have := n.2.1; omega) n.2.1 n.2.2 T2 (by have := n.2.1; simp; omega) fun I3 f3 T3 => ?_))
      have f3 := f2.trans f3
      refine x_ob rfl (x_cV (sp_X11_says T3 (by simp [nam_len]; have := n.2.1; omega) (by omega) fun I4 f4 T4 => ?_))
      have f4 := f3.trans f4
      have h4 := f4.rn h0
      have len4 : ((pmT V H k ++ (if 0 < k then [32] else []) ++ nam (vN V k)) ++ [58]).length ≤ 20 * k + 8 := by simp only [List.length_append, nam_len, List.length_cons, List.length_nil]; have := n.2.1; omega
      have key2 : ∀ (I5 : IM) (t : List Int), Oy I0 I5 → Ty I5 31 216 (((pmT V H k ++ (if 0 < k then [32] else []) ++ nam (vN V k)) ++ [58]) ++ t) → t.length ≤ 11 → t = (if hh H k = 1 then num (hv H k) else [63]) →
          (ob 11 200 (cI SX11_isBench [.ref 200, .int (i32 k)] fun v8 => br (v8 = i32 0) (fx bX11_printMarks 1 [.ref 200, .int (i32 ((k : Int) + 1))]) (ob 11 200 (cV SX11_says [.ref 200, .int (i32 42)] <| fx bX11_printMarks 1 [.ref 200, .int (i32 ((k : Int) + 1))])))) (ME e I5 J) Q := by
        intro I5 t f5 T5 lt et
        have h5 := f5.rn h0
        have b01 := (h5.2.1 k (by omega) (by omega)).1
        refine x_ob rfl (x_cI (sp_X11_isBench m h5.2.1 h5.2.2.2.2 (by omega) ?_))
        refine x_eq (by omega) (by omega) (fun hz => ?_) (fun hz => ?_)
        · refine hJ _ _ ⟨I5, rfl, rfl, f5, ?_⟩
          simp only [pmT]
          rw [if_neg (show ¬ hb H k = 1 by omega), List.append_nil, ← et]
          exact T5
        · refine x_ob rfl (x_cV (sp_X11_says T5 (by rw [List.length_append]; omega) (by omega) fun I6 f6 T6 => ?_))
          refine hJ _ _ ⟨I6, rfl, rfl, f5.trans f6, ?_⟩
          simp only [pmT]
          rw [if_pos (show hb H k = 1 by omega), ← et]
          exact T6
      have z01 := (h.2.1 k (by omega) (by omega)).2.1
      refine x_ob rfl (x_cI (sp_X11_hasHeight m h4.2.1 h4.2.2.2.2 (by omega) ?_))
      refine x_eq (by omega) (by omega) (fun hz => ?_) (fun hz => ?_)
      · refine x_ob rfl (x_cV (sp_X11_says T4 (by omega) (by omega) fun I5 f5 T5 => ?_))
        exact key2 I5 _ (f4.trans f5) T5 (by simp) (by rw [if_neg (by omega)])
      · have hb := h.2.2.1 k (by omega) (by omega) (by omega)
        refine x_ob rfl (x_cI (sp_X11_of (by omega) (by omega) (by omega) (by omega) ?_))
        rw [W_ht h4.2.2.2.2 (by omega) (by omega) (by omega)]
        refine x_ob rfl (x_cV (sp_X11_saysNumber (by omega) T4 (by omega) fun I5 f5 T5 => ?_))
        exact key2 I5 _ (f4.trans f5) T5 (num_len (by omega)) (by rw [if_pos (by omega)])
    refine x_ob rfl (x_cI (sp_X11_marks h1.2.2.2.1 ?_))
    refine x_le (by omega) (by omega) (fun h => by omega) (fun _ => x_le (by omega) (by omega) (fun hz => ?_) (fun hz => ?_))
    · refine key I1 f1 ?_
      rw [if_neg (by omega), List.append_nil]; exact T1
    · refine x_ob rfl (x_cV (sp_X11_says T1 (by omega) (by omega) fun I2 f2 T2 => ?_))
      refine key I2 (f1.trans f2) ?_
      rw [if_pos (by omega)]; exact T2
  · rintro av μ ⟨I1, rfl, rfl, f1, T1⟩
    dsimp only [bX11_printMarks, bX11_printMarks_1]
    have h1 := f1.rn h0
    refine x_ob rfl (x_cI (sp_X11_marks h1.2.2.2.1 (x_le (by omega) (by omega) (fun _ => x_gI rfl ?_) (fun h => by omega))))
    rw [show I1 200 ((31 : Nat) : Int) = _ from T1.1]
    exact x_rI (hQ I1 (r0.ry f1) T1 (by rw [f1.2 0 (by omega)]; exact t0))
end Out58d
