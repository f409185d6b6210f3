section Ini62e
variable {Q : Post} {h : Nat → Nat → Bool} {I : IM}
/-- what the class's making leaves -/
def M10 (h : Nat → Nat → Bool) (I : IM) : Prop := (∀ q', q' < 200 → Fl h q') ∧ Zr 200 h I ∧ (∀ k, k ≠ 14 → I 0 k = 0) ∧ I 0 14 = -1 ∧ (∀ q', 1 ≤ q' → q' < 19 → q' ≠ 9 → ∀ k, I q' k = 0) ∧ (∀ i : Int, 0 ≤ i → i < 4 → I 9 i = dfl i) ∧ (∀ k, I 41 k = 0) ∧ (∀ k, I 190 k = 0) ∧ Qw I
def Dn (h : Nat → Nat → Bool) (a b : Nat) : Prop := ∀ q', a ≤ q' → q' < b → Fl h q'
theorem Dn.hs0 {a b k : Nat} (hd : Dn h a b) : Dn (hs h 0 k) a b := fun q' x y j hj => hs_k (hd q' x y j hj)
theorem Dn.ext {h' : Nat → Nat → Bool} {a b c : Nat} (hd : Dn h a b) (f : ∀ q', q' < b → h' q' = h q') (l : ∀ q', b ≤ q' → q' < c → Fl h' q') : Dn h' a c := fun q' x y j hj => by
  by_cases e : q' < b
  · rw [f q' e]; exact hd q' x e j hj
  · exact l q' (by omega) y j hj
theorem sp_ini10 (hz : Zr 1 h I) (h00 : ∀ q k, I q k = 0) (hQ : ∀ (h' : Nat → Nat → Bool) (I' : IM), M10 h' I' → Q (.inl none) (Mk 200 h' I')) : SX10_init [.ref 0] (Mk 1 h I) Q := by
  refine x_in (Nat.le_of_ble_eq_true rfl) ?_
  dsimp only [bX10_init, bX10_init_0]
  ((try rw [show (0 : Int32) = i32 (0) from rfl]); (try rw [show (-1 : Int32) = i32 (-1) from rfl]); (try simp only [i32_add, i32_sub, i32_mul, i32_neg]))
  -- input
  refine y_nO rfl hz (x_cV (sp_ini7_1 (hz.le (by omega)) (h00 1) fun h1 f1 l1 z1 => y_pR rfl (by omega) rfl ?_))
  have d1 : Dn (hs h1 0 0) 1 3 := Dn.hs0 l1
  have w1 : ∀ k, k < 1 → (hs h1 0 0) 0 k = true := fun k hk => by rw [show k = 0 by omega]; exact hs_self
  have z1 := z1.hs (q := 0) (k := 0) (by omega)
  generalize hs h1 0 0 = g1 at *
  -- output
  refine y_nO rfl z1 (x_cV (sp_ini7_3 (z1.le (by omega)) (h00 3) fun h2 f2 l2 z2 => y_pR rfl (by omega) rfl ?_))
  have d2 : Dn (hs h2 0 1) 1 5 := Dn.hs0 (d1.ext (fun q' a => f2 q' a) l2)
  have w2 : ∀ k, k < 2 → (hs h2 0 1) 0 k = true := fun k hk => by
    by_cases e : k = 1
    · subst e; exact hs_self
    · exact hs_k (by rw [f2 0 (by omega)]; exact w1 k (by omega))
  have z2 := z2.hs (q := 0) (k := 1) (by omega)
  generalize hs h2 0 1 = g2 at *
  -- wall
  refine y_nO rfl z2 (x_cV (sp_ini9_5 (z2.le (by omega)) (h00 5) fun h3 f3 l3 z3 => y_pR rfl (by omega) rfl ?_))
  have d3 : Dn (hs h3 0 2) 1 8 := Dn.hs0 (d2.ext (fun q' a => f3 q' a) l3)
  have w3 : ∀ k, k < 3 → (hs h3 0 2) 0 k = true := fun k hk => by
    by_cases e : k = 2
    · subst e; exact hs_self
    · exact hs_k (by rw [f3 0 (by omega)]; exact w2 k (by omega))
  have z3 := z3.hs (q := 0) (k := 2) (by omega)
  generalize hs h3 0 2 = g3 at *
  -- now
  refine y_nO rfl z3 (x_cV (sp_init6 st8 (z3.le (by omega)) (h00 8) fun h4 I4 f4 e4 l4 z4 s4 => y_pR rfl (by omega) rfl ?_))
  have d4 : Dn (hs h4 0 3) 1 19 := Dn.hs0 (d3.ext (fun q' a => f4 q' a) l4)
  have w4 : ∀ k, k < 4 → (hs h4 0 3) 0 k = true := fun k hk => by
    by_cases e : k = 3
    · subst e; exact hs_self
    · exact hs_k (by rw [f4 0 (by omega)]; exact w3 k (by omega))
  have z4 := z4.hs (q := 0) (k := 3) (by omega)
  generalize hs h4 0 3 = g4 at *
  -- trial
  refine y_nO rfl z4 (x_cV (sp_init6 st19 (z4.le (by omega)) (fun k => by rw [e4 19 (by omega)]; exact h00 19 k) fun h5 I5 f5 e5 l5 z5 _ => y_pR rfl (by omega) rfl ?_))
  have d5 : Dn (hs h5 0 4) 1 30 := Dn.hs0 (d4.ext (fun q' a => f5 q' a) l5)
  have w5 : ∀ k, k < 5 → (hs h5 0 4) 0 k = true := fun k hk => by
    by_cases e : k = 4
    · subst e; exact hs_self
    · exact hs_k (by rw [f5 0 (by omega)]; exact w4 k (by omega))
  have z5 := z5.hs (q := 0) (k := 4) (by omega)
  generalize hs h5 0 4 = g5 at *
  -- saved
  refine y_nO rfl z5 (x_cV (sp_init6 st30 (z5.le (by omega)) (fun k => by rw [e5 30 (by omega), e4 30 (by omega)]; exact h00 30 k) fun h6 I6 f6 e6 l6 z6 _ => y_pR rfl (by omega) rfl ?_))
  have d6 : Dn (hs h6 0 5) 1 41 := Dn.hs0 (d5.ext (fun q' a => f6 q' a) l6)
  have w6 : ∀ k, k < 6 → (hs h6 0 5) 0 k = true := fun k hk => by
    by_cases e : k = 5
    · subst e; exact hs_self
    · exact hs_k (by rw [f6 0 (by omega)]; exact w5 k (by omega))
  have z6 := z6.hs (q := 0) (k := 5) (by omega)
  generalize hs h6 0 5 = g6 at *
  -- history
  refine y_nO rfl z6 (x_cV (sp_ini3 (z6.le (by omega)) (fun k => by rw [e6 41 (by omega), e5 41 (by omega), e4 41 (by omega)]; exact h00 41 k) fun h7 I7 f7 l7 z7 e7 => y_pR rfl (by omega) rfl ?_))
  have d7 : Dn (hs h7 0 6) 1 153 := Dn.hs0 (d6.ext (fun q' a => f7 q' a) l7)
  have w7 : ∀ k, k < 7 → (hs h7 0 6) 0 k = true := fun k hk => by
    by_cases e : k = 6
    · subst e; exact hs_self
    · exact hs_k (by rw [f7 0 (by omega)]; exact w6 k (by omega))
  have z7 := z7.hs (q := 0) (k := 6) (by omega)
  generalize hs h7 0 6 = g7 at *
  -- reader
  refine y_nO rfl z7 (y_gR rfl (by omega) (w7 0 (by omega)) rfl (x_cV (sp_ini5 (z7.le (by omega)) fun h8 I8 f8 e8 l8 z8 q8 => y_pR rfl (by omega) rfl ?_)))
  have d8 : Dn (hs h8 0 7) 1 171 := Dn.hs0 (d7.ext (fun q' a => f8 q' a) l8)
  have w8 : ∀ k, k < 8 → (hs h8 0 7) 0 k = true := fun k hk => by
    by_cases e : k = 7
    · subst e; exact hs_self
    · exact hs_k (by rw [f8 0 (by omega)]; exact w7 k (by omega))
  have z8 := z8.hs (q := 0) (k := 7) (by omega)
  generalize hs h8 0 7 = g8 at *
  -- edges
  refine y_nO rfl z8 (y_gR rfl (by omega) (w8 2 (by omega)) rfl (y_gR rfl (by omega) (w8 3 (by omega)) rfl (x_cV (sp_ini0_171 (z8.le (by omega)) (fun k => (z8 171 (by omega)).2 k) fun h9 f9 l9 z9 => y_pR rfl (by omega) rfl ?_))))
  have d9 : Dn (hs h9 0 8) 1 185 := Dn.hs0 (d8.ext (fun q' a => f9 q' a) l9)
  have w9 : ∀ k, k < 9 → (hs h9 0 8) 0 k = true := fun k hk => by
    by_cases e : k = 8
    · subst e; exact hs_self
    · exact hs_k (by rw [f9 0 (by omega)]; exact w8 k (by omega))
  have z9 := z9.hs (q := 0) (k := 8) (by omega)
  generalize hs h9 0 8 = g9 at *
  -- forest
  refine y_nO rfl z9 (y_gR rfl (by omega) (w9 8 (by omega)) rfl (x_cV (sp_ini1_185 (z9.le (by omega)) (fun k => (z9 185 (by omega)).2 k) fun ha fa la za => y_pR rfl (by omega) rfl ?_)))
  have da : Dn (hs ha 0 9) 1 191 := Dn.hs0 (d9.ext (fun q' a => fa q' a) la)
  have wa : ∀ k, k < 10 → (hs ha 0 9) 0 k = true := fun k hk => by
    by_cases e : k = 9
    · subst e; exact hs_self
    · exact hs_k (by rw [fa 0 (by omega)]; exact w9 k (by omega))
  have za := za.hs (q := 0) (k := 9) (by omega)
  generalize hs ha 0 9 = ga at *
  -- loops
  refine y_nO rfl za (y_gR rfl (by omega) (wa 8 (by omega)) rfl (y_gR rfl (by omega) (wa 9 (by omega)) rfl (x_cV (sp_ini4_191 (za.le (by omega)) (fun k => (za 191 (by omega)).2 k) fun hb fb lb zb => y_pR rfl (by omega) rfl ?_))))
  have db : Dn (hs hb 0 10) 1 198 := Dn.hs0 (da.ext (fun q' a => fb q' a) lb)
  have wb : ∀ k, k < 11 → (hs hb 0 10) 0 k = true := fun k hk => by
    by_cases e : k = 10
    · subst e; exact hs_self
    · exact hs_k (by rw [fb 0 (by omega)]; exact wa k (by omega))
  have zb := zb.hs (q := 0) (k := 10) (by omega)
  generalize hs hb 0 10 = gb at *
  -- heights
  refine y_nO rfl zb (y_gR rfl (by omega) (wb 8 (by omega)) rfl (x_cV (sp_ini2_198 (zb.le (by omega)) (fun k => (zb 198 (by omega)).2 k) fun hc fc lc zc => y_pR rfl (by omega) rfl ?_)))
  have dc : Dn (hs hc 0 11) 1 200 := Dn.hs0 (db.ext (fun q' a => fc q' a) lc)
  have wc : ∀ k, k < 12 → (hs hc 0 11) 0 k = true := fun k hk => by
    by_cases e : k = 11
    · subst e; exact hs_self
    · exact hs_k (by rw [fc 0 (by omega)]; exact wb k (by omega))
  have zc := zc.hs (q := 0) (k := 11) (by omega)
  generalize hs hc 0 11 = gc at *
  -- what the rows hold
  have lo : ∀ q', q' < 43 → q' ≠ 9 → q' ≠ 20 → q' ≠ 31 → ∀ k, I8 q' k = 0 := fun q' a b c d k => by
    rw [e8 q' (by omega), e7 q' a k, e6 q' (by omega) k, e5 q' (by omega) k, e4 q' (by omega) k]; exact h00 q' k
  have i0 : ∀ k, I8 0 k = 0 := lo 0 (by omega) (by omega) (by omega) (by omega)
  refine y_pZ rfl (by omega) (by omega) ?_
  rw [up_zero (i0 _)]
  refine y_pI rfl (by omega) ?_
  rw [up_zero (i0 _)]
  refine y_pI rfl (by omega) (x_rV (hQ _ _ ⟨fun q' hq' => ?_, fun q' hq' => ⟨(zc q' hq').1, fun k => by rw [up_q (by omega)]; exact (zc q' hq').2 k⟩, fun k hk => ?_, ?_, fun q' a b c k => ?_, fun i a b => ?_, fun k => ?_, fun k => ?_, fun i hi => ?_⟩))
  · by_cases e : q' = 0
    · subst e
      intro k hk
      match k, hk with
      | 0, _ | 1, _ | 2, _ | 3, _ | 4, _ | 5, _ | 6, _ | 7, _ | 8, _ | 9, _ | 10, _ | 11, _ => exact wc _ (by omega)
      | k + 12, hk => exact absurd rfl hk
    · exact dc q' (by omega) hq'
  · rw [up_k (show k ≠ ((14 : Nat) : Int) from hk)]; exact i0 k
  · exact up_self
  · rw [up_q (by omega)]; exact lo q' (by omega) c (by omega) (by omega) k
  · rw [up_q (by omega), e8 9 (by omega), e7 9 (by omega), e6 9 (by omega), e5 9 (by omega)]; exact s4 i a b
  · rw [up_q (by omega)]; exact lo 41 (by omega) (by omega) (by omega) (by omega) k
  · rw [up_q (by omega)]; exact (z8 190 (by omega)).2 k
  · rw [up_q (by omega)]; exact q8 i hi
/-- what the reference's making leaves -/
def M11 (h : Nat → Nat → Bool) (I : IM) (I0 : IM) : Prop := (∀ q', q' < 217 → Fl h q') ∧ Zr 217 h I ∧ (∀ q', q' < 200 → I q' = I0 q') ∧ (∀ k, k ≠ 28 → I 200 k = 0) ∧ I 200 28 = -1 ∧ (∀ k : Int, 0 ≤ k → k < 308 → I 201 k = if k = 2 then 1000 else if k = 5 then 10 else 0)
theorem y_resets (hh : h 200 1 = true) (hQ : ∀ I' : IM, (∀ q, q ≠ 201 → I' q = I q) → (∀ k : Int, 0 ≤ k → k < 308 → I' 201 k = if k = 2 then 1000 else if k = 5 then 10 else 0) → Q (.inl none) (Mk 217 h I')) : SX11_resets [.ref 200] (Mk 217 h I) Q := by
  refine x_in (Nat.le_of_ble_eq_true rfl) ?_
  dsimp only [bX11_resets, bX11_resets_0]
  refine x_for 308 (fun i av μ => ∃ I1 : IM, av = [.ref 200, .int (i32 i)] ∧ μ = Mk 217 h I1 ∧ (∀ q, q ≠ 201 → I1 q = I q) ∧ (∀ k : Int, 0 ≤ k → k < i → I1 201 k = 0)) ?_ ?_ (Nat.zero_le _) ⟨I, rfl, rfl, fun _ _ => rfl, fun k a b => by omega⟩
  · rintro i av μ hi ⟨I1, rfl, rfl, f1, g1⟩ hJ
    dsimp only [bX11_resets, bX11_resets_1]
    ((try rw [show (0 : Int32) = i32 (0) from rfl]); (try rw [show (1 : Int32) = i32 (1) from rfl]); (try rw [show (308 : Int32) = i32 (308) from rfl]); (try simp only [i32_add, i32_sub, i32_mul, i32_neg]))
    refine x_le (by omega) (by omega) (fun h => by omega) (fun _ => y_gR rfl (by omega) hh rfl (y_sA (m := 308) rfl (by omega) (by omega) (by omega) (by omega) (hJ _ _ ⟨_, rfl, rfl, fun q a => by rw [up_qf a, f1 q a], fun k a b => ?_⟩)))
    rw [up_at]
    by_cases e : k = i
    · rw [if_pos e]
    · rw [if_neg e]; exact g1 k a (by omega)
  · rintro av μ ⟨I1, rfl, rfl, f1, g1⟩
    dsimp only [bX11_resets, bX11_resets_1]
    ((try rw [show (0 : Int32) = i32 (0) from rfl]); (try rw [show (1 : Int32) = i32 (1) from rfl]); (try rw [show (2 : Int32) = i32 (2) from rfl]); (try rw [show (5 : Int32) = i32 (5) from rfl]); (try rw [show (10 : Int32) = i32 (10) from rfl]); (try rw [show (308 : Int32) = i32 (308) from rfl]); (try rw [show (1000 : Int32) = i32 (1000) from rfl]); (try simp only [i32_add, i32_sub, i32_mul, i32_neg]))
    refine x_le (by omega) (by omega) (fun _ => y_gR rfl (by omega) hh rfl (y_sA (m := 308) rfl (by omega) (by omega) (by omega) (by omega) (y_gR rfl (by omega) hh rfl (y_sA (m := 308) rfl (by omega) (by omega) (by omega) (by omega) (x_rV (hQ _ (fun q a => by rw [up_qf a, up_qf a, f1 q a]) fun k a b => ?_)))))) (fun h => by omega)
    rw [up_at]
    by_cases h5 : k = 5
    · rw [if_pos h5, if_neg (by omega), if_pos h5]
    · rw [if_neg h5, up_at]
      by_cases h2 : k = 2
      · rw [if_pos h2, if_pos h2]
      · rw [if_neg h2, if_neg h2, if_neg h5]; exact g1 k a b
theorem sp_ini11 (hd : ∀ q', q' < 200 → Fl h q') (hz : Zr 201 h I) (h00 : ∀ k, I 200 k = 0) (hQ : ∀ (h' : Nat → Nat → Bool) (I' : IM), M11 h' I' I → Q (.inl none) (Mk 217 h' I')) : SX11_init [.ref 200] (Mk 201 h I) Q := by
  refine x_in (Nat.le_of_ble_eq_true rfl) ?_
  dsimp only [bX11_init, bX11_init_0]
  ((try rw [show (-1 : Int32) = i32 (-1) from rfl]); (try simp only [i32_add, i32_sub, i32_mul, i32_neg]))
  refine y_nA rfl (by decide) (by decide) rfl hz (y_pR rfl (by omega) rfl ?_)
  have hz := (hz.le (n' := 202) (by omega)).hs (q := 200) (k := 1) (by omega)
  refine y_nA rfl (by decide) (by decide) rfl hz (y_pR rfl (by omega) rfl ?_)
  have hz := (hz.le (n' := 203) (by omega)).hs (q := 200) (k := 2) (by omega)
  refine y_nA rfl (by decide) (by decide) rfl hz (y_pR rfl (by omega) rfl ?_)
  have hz := (hz.le (n' := 204) (by omega)).hs (q := 200) (k := 3) (by omega)
  refine y_nA rfl (by decide) (by decide) rfl hz (y_pR rfl (by omega) rfl ?_)
  have hz := (hz.le (n' := 205) (by omega)).hs (q := 200) (k := 4) (by omega)
  refine y_nA rfl (by decide) (by decide) rfl hz (y_pR rfl (by omega) rfl ?_)
  have hz := (hz.le (n' := 206) (by omega)).hs (q := 200) (k := 5) (by omega)
  refine y_nA rfl (by decide) (by decide) rfl hz (y_pR rfl (by omega) rfl ?_)
  have hz := (hz.le (n' := 207) (by omega)).hs (q := 200) (k := 6) (by omega)
  refine y_nA rfl (by decide) (by decide) rfl hz (y_pR rfl (by omega) rfl ?_)
  have hz := (hz.le (n' := 208) (by omega)).hs (q := 200) (k := 9) (by omega)
  refine y_nA rfl (by decide) (by decide) rfl hz (y_pR rfl (by omega) rfl ?_)
  have hz := (hz.le (n' := 209) (by omega)).hs (q := 200) (k := 11) (by omega)
  refine y_nA rfl (by decide) (by decide) rfl hz (y_pR rfl (by omega) rfl ?_)
  have hz := (hz.le (n' := 210) (by omega)).hs (q := 200) (k := 12) (by omega)
  refine y_nA rfl (by decide) (by decide) rfl hz (y_pR rfl (by omega) rfl ?_)
  have hz := (hz.le (n' := 211) (by omega)).hs (q := 200) (k := 13) (by omega)
  refine y_nA rfl (by decide) (by decide) rfl hz (y_pR rfl (by omega) rfl ?_)
  have hz := (hz.le (n' := 212) (by omega)).hs (q := 200) (k := 14) (by omega)
  refine y_nA rfl (by decide) (by decide) rfl hz (y_pR rfl (by omega) rfl ?_)
  have hz := (hz.le (n' := 213) (by omega)).hs (q := 200) (k := 15) (by omega)
  refine y_nA rfl (by decide) (by decide) rfl hz (y_pR rfl (by omega) rfl ?_)
  have hz := (hz.le (n' := 214) (by omega)).hs (q := 200) (k := 16) (by omega)
  refine y_nA rfl (by decide) (by decide) rfl hz (y_pR rfl (by omega) rfl ?_)
  have hz := (hz.le (n' := 215) (by omega)).hs (q := 200) (k := 18) (by omega)
  refine y_nA rfl (by decide) (by decide) rfl hz (y_pR rfl (by omega) rfl ?_)
  have hz := (hz.le (n' := 216) (by omega)).hs (q := 200) (k := 19) (by omega)
  refine y_pI rfl (by omega) ?_
  have hz := hz.up (q := 200) (k := 28) (v := -1) (by omega)
  rw [show ((28 : Nat) : Int) = 28 from rfl]
  refine y_nA rfl (by decide) (by decide) rfl hz (y_pR rfl (by omega) rfl ?_)
  have hz := (hz.le (n' := 217) (by omega)).hs (q := 200) (k := 30) (by omega)
  have fr : ∀ q', q' ≠ 200 → (hs (hs (hs (hs (hs (hs (hs (hs (hs (hs (hs (hs (hs (hs (hs (hs h 200 1) 200 2) 200 3) 200 4) 200 5) 200 6) 200 9) 200 11) 200 12) 200 13) 200 14) 200 15) 200 16) 200 18) 200 19) 200 30) q' = h q' := fun q' a => by simp only [hs_ne a]
  have fl : Fl (hs (hs (hs (hs (hs (hs (hs (hs (hs (hs (hs (hs (hs (hs (hs (hs h 200 1) 200 2) 200 3) 200 4) 200 5) 200 6) 200 9) 200 11) 200 12) 200 13) 200 14) 200 15) 200 16) 200 18) 200 19) 200 30) 200 := by
    intro k hk
    match k, hk with
    | 1, _ | 2, _ | 3, _ | 4, _ | 5, _ | 6, _ | 9, _ | 11, _ | 12, _ | 13, _ | 14, _ | 15, _ | 16, _ | 18, _ | 19, _ | 30, _ => simp [hs]
    | 0, hk | 7, hk | 8, hk | 10, hk | 17, hk | 20, hk | 21, hk | 22, hk | 23, hk | 24, hk | 25, hk | 26, hk | 27, hk | 28, hk | 29, hk => exact absurd rfl hk
    | k + 31, hk => exact absurd rfl hk
  have f1 : (hs (hs (hs (hs (hs (hs (hs (hs (hs (hs (hs (hs (hs (hs (hs (hs h 200 1) 200 2) 200 3) 200 4) 200 5) 200 6) 200 9) 200 11) 200 12) 200 13) 200 14) 200 15) 200 16) 200 18) 200 19) 200 30) 200 1 = true := fl 1 (by show (some 201 : Option Nat) ≠ none; simp)
  generalize (hs (hs (hs (hs (hs (hs (hs (hs (hs (hs (hs (hs (hs (hs (hs (hs h 200 1) 200 2) 200 3) 200 4) 200 5) 200 6) 200 9) 200 11) 200 12) 200 13) 200 14) 200 15) 200 16) 200 18) 200 19) 200 30) = g at *
  refine y_ob rfl (by omega) (x_cV (y_resets f1 fun I' f' r' => x_rV (hQ g I' ⟨fun q' hq' => ?_, fun q' hq' => ⟨(hz q' hq').1, fun k => by rw [f' q' (by omega)]; exact (hz q' hq').2 k⟩, fun q' hq' => by rw [f' q' (by omega), up_qf (by omega)], fun k hk => by rw [f' 200 (by omega), up_k hk]; exact h00 k, by rw [f' 200 (by omega)]; exact up_self, r'⟩)))
  by_cases e : q' = 200
  · rw [e]; exact fl
  · by_cases e2 : q' < 200
    · intro k hk; rw [fr q' e]; exact hd q' e2 k hk
    · rcases (show q' = 201 ∨ q' = 202 ∨ q' = 203 ∨ q' = 204 ∨ q' = 205 ∨ q' = 206 ∨ q' = 207 ∨ q' = 208 ∨ q' = 209 ∨ q' = 210 ∨ q' = 211 ∨ q' = 212 ∨ q' = 213 ∨ q' = 214 ∨ q' = 215 ∨ q' = 216 by omega) with rfl | rfl | rfl | rfl | rfl | rfl | rfl | rfl | rfl | rfl | rfl | rfl | rfl | rfl | rfl | rfl <;> exact fl_none fun k => rfl
theorem R0_out {q : Nat} (hq : 217 ≤ q) : ∀ k, R0 8 q k = none := by
  intro k
  have e : rb q = [] := by
    by_cases h : q = 217
    · rw [h]; rfl
    · unfold rb
      rw [Nat.ble_eq_true_of_le (show 218 ≤ q by omega)]; rfl
  unfold R0
  rw [e]
  have : (Nat.beq q 171 && Nat.beq k 1) = false := by
    cases hb : Nat.beq q 171
    · rfl
    · have := Nat.eq_of_beq_eq_true hb; omega
  rw [this]; rfl
/-- all is made -/
theorem Mk_ME (hf : ∀ q', q' < 217 → Fl h q') : Mk 218 h I = ME 8 I (fun _ _ => 0) := by
  have e : (fun (q k : Nat) => if h q k = true then R0 8 q k else none) = R0 8 := by
    funext q k
    by_cases hh : h q k = true
    · rw [if_pos hh]
    · rw [if_neg hh]
      by_cases hq : q < 217
      · by_cases hr : R0 8 q k = none
        · exact hr.symm
        · exact absurd (hf q hq k hr) hh
      · exact (R0_out (by omega) k).symm
  show (218, (fun (q k : Nat) => i32 (I q (k : Int))), (fun (q k : Nat) => if h q k = true then R0 8 q k else none), (fun (_ _ : Nat) => (0 : Int64))) = _
  rw [e]
  rfl
end Ini62e
