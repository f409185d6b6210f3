section Ini62d
variable {Q : Post} {h h0 : Nat → Nat → Bool} {I I0 : IM}
def Inv3 (h0 : Nat → Nat → Bool) (I0 : IM) (i : Nat) (h : Nat → Nat → Bool) (I : IM) : Prop := Zr (43 + 11 * i) h I ∧ h 41 0 = true ∧ (∀ j, j < i → h 42 j = true) ∧ (∀ q', 43 ≤ q' → q' < 43 + 11 * i → Fl h q') ∧ (∀ q', q' < 41 → h q' = h0 q') ∧ (∀ q', q' < 43 → ∀ k, I q' k = I0 q' k)
theorem R0_42 : ∀ i, i < 10 → R0 8 42 i = some (43 + 11 * i) := by decide +kernel
theorem st3 {i : Nat} (hi : i < 10) {x y : Int32} (hx : x = i32 (i : Int)) (hy : y = i32 ((i : Int) + 1)) {F : Sem} (hI : Inv3 h0 I0 i h I) (hF : i + 1 < 10 → ∀ (h' : Nat → Nat → Bool) (I' : IM), Inv3 h0 I0 (i + 1) h' I' → F (Mk (43 + 11 * (i + 1)) h' I') Q) (hE : i + 1 = 10 → ∀ (h' : Nat → Nat → Bool) (I' : IM), Inv3 h0 I0 (i + 1) h' I' → Q (.inl none) (Mk (43 + 11 * (i + 1)) h' I')) :
    (gR 3 0 41 fun r4 => nO 6 fun r5 => cV SX6_init [.ref r5] <| sR r4 x r5 <| gR 3 0 41 fun r6 => aL r6 fun v7 => br (v7 ≤ y) rV F) (Mk (43 + 11 * i) h I) Q := by
  obtain ⟨a1, a2, a3, a4, a5, a6⟩ := hI
  subst hx
  subst hy
  have hst := rg_st hi
  have k6 := (kb_st _ hst).1
  refine y_gR rfl (by omega) a2 rfl (y_nO k6 a1 (x_cV (sp_init6 hst (a1.le (by omega)) (fun k => (a1 _ (by omega)).2 k) fun h1 I1 f1 g1 l1 z1 d1 => ?_)))
  rw [show 43 + 11 * i + 11 = 43 + 11 * (i + 1) by omega] at *
  refine y_sR (q := 42) rfl (by omega) (R0_42 i hi) hi (by omega) k6 (by omega) ?_
  have z2 := z1.hs (q := 42) (k := i) (by omega)
  have inv : Inv3 h0 I0 (i + 1) (hs h1 42 i) I1 := by
    refine ⟨z2, by rw [hs_ne (by omega), f1 41 (by omega)]; exact a2, fun j hj => ?_, fun q' b1 b2 k hk => ?_, fun q' hq' => by rw [hs_ne (by omega), f1 q' (by omega)]; exact a5 q' hq', fun q' hq' k => by rw [g1 q' (by omega)]; exact a6 q' hq' k⟩
    · by_cases e : j = i
      · subst e; exact hs_self
      · exact hs_k (by rw [f1 42 (by omega)]; exact a3 j (by omega))
    · refine hs_k ?_
      by_cases e : q' < 43 + 11 * i
      · rw [f1 q' e]; exact a4 q' b1 e k hk
      · exact l1 q' (by omega) (by omega) k hk
  refine y_gR rfl (by omega) inv.2.1 rfl (y_aL (q := 42) (t := 5) (m := 10) rfl (Or.inr rfl) (by omega) ?_)
  refine x_le (by omega) (by omega) (fun c => x_rV (hE (by omega) _ _ inv)) (fun c => hF (by omega) _ _ inv)
theorem sp_ini3 (hz : Zr 42 h I) (h00 : ∀ k, I 41 k = 0) (hQ : ∀ (h' : Nat → Nat → Bool) (I' : IM), (∀ q', q' < 41 → h' q' = h q') → (∀ q', 41 ≤ q' → q' < 153 → Fl h' q') → Zr 153 h' I' → (∀ q', q' < 43 → ∀ k, I' q' k = I q' k) → Q (.inl none) (Mk 153 h' I')) : SX3_init [.ref 41] (Mk 42 h I) Q := by
  refine x_in (Nat.le_of_ble_eq_true rfl) ?_
  dsimp only [bX3_init, bX3_init_0]
  refine y_nA (m := 10) (t := 5) rfl (by decide) (by decide) rfl hz (y_pR rfl (by omega) rfl ?_)
  have z1 := (hz.le (n' := 43) (by omega)).hs (q := 41) (k := 0) (by omega)
  rw [show pI 3 1 41 0 = pI 3 1 41 (i32 0) from rfl, show pI 3 2 41 0 = pI 3 2 41 (i32 0) from rfl]
  refine y_pI rfl (by omega) ?_
  rw [up_zero (h00 _)]
  refine y_pI rfl (by omega) ?_
  rw [up_zero (h00 _)]
  refine y_gR rfl (by omega) hs_self rfl (y_aL (q := 42) (t := 5) (m := 10) rfl (Or.inr rfl) (by omega) ?_)
  refine x_br (fun c => absurd c (by decide)) (fun _ => ?_)
  have inv : Inv3 h I 0 (hs h 41 0) I := ⟨z1, hs_self, fun j hj => by omega, fun q' a b => by omega, fun q' hq' => hs_ne (by omega), fun q' hq' k => rfl⟩
  have done : ∀ (h' : Nat → Nat → Bool) (I' : IM), Inv3 h I 10 h' I' → Q (.inl none) (Mk 153 h' I') := by
    intro h' I' v
    refine hQ h' I' v.2.2.2.2.1 (fun q' a b => ?_) v.1 v.2.2.2.2.2
    by_cases e1 : q' = 41
    · subst e1
      intro k hk
      match k, hk with
      | 0, _ => exact v.2.1
      | k + 1, hk => exact absurd rfl hk
    · by_cases e2 : q' = 42
      · subst e2
        intro k hk
        match k, hk with
        | 0, _ | 1, _ | 2, _ | 3, _ | 4, _ | 5, _ | 6, _ | 7, _ | 8, _ | 9, _ => exact v.2.2.1 _ (by omega)
        | k + 10, hk => exact absurd rfl hk
      · exact v.2.2.2.1 q' (by omega) (by omega)
  refine st3 (i := 0) (by omega) rfl rfl inv (fun _ h1 I1 v1 => ?_) (fun c => absurd c (by decide))
  refine st3 (i := 1) (by omega) rfl rfl v1 (fun _ h2 I2 v2 => ?_) (fun c => absurd c (by decide))
  refine st3 (i := 2) (by omega) rfl rfl v2 (fun _ h3 I3 v3 => ?_) (fun c => absurd c (by decide))
  refine st3 (i := 3) (by omega) rfl rfl v3 (fun _ h4 I4 v4 => ?_) (fun c => absurd c (by decide))
  refine st3 (i := 4) (by omega) rfl rfl v4 (fun _ h5 I5 v5 => ?_) (fun c => absurd c (by decide))
  refine st3 (i := 5) (by omega) rfl rfl v5 (fun _ h6 I6 v6 => ?_) (fun c => absurd c (by decide))
  refine st3 (i := 6) (by omega) rfl rfl v6 (fun _ h7 I7 v7 => ?_) (fun c => absurd c (by decide))
  refine st3 (i := 7) (by omega) rfl rfl v7 (fun _ h8 I8 v8 => ?_) (fun c => absurd c (by decide))
  refine st3 (i := 8) (by omega) rfl rfl v8 (fun _ h9 I9 v9 => ?_) (fun c => absurd c (by decide))
  exact st3 (i := 9) (by omega) rfl rfl v9 (fun c => absurd c (by decide)) (fun _ h' I' v => done h' I' v)
end Ini62d
