section Ini62c
variable {Q : Post} {h : Nat → Nat → Bool} {I : IM}
theorem y_withLetter {μ : Mem} {c v : Int} (hc : 97 ≤ c ∧ c ≤ 122) (hQ : Q (.inl (some (.int (i32 (32 * v + (c - 96)))))) μ) : SX10_withLetter [.int (i32 v), .int (i32 c)] μ Q := by
  refine x_in (Nat.le_of_ble_eq_true rfl) ?_
  dsimp only [bX10_withLetter, bX10_withLetter_0]
  rw [show (97 : Int32) = i32 97 from rfl, show (1 : Int32) = i32 1 from rfl, i32_sub, i32_add, i32_shl (by omega)]
  rw [show c - 97 + 1 = c - 96 by omega]
  exact x_rI hQ
theorem kw_str : ∀ i, i < 11 → scLen.getD i 0 = (kwL i).length ∧ (kwL i).length ≤ 6 ∧ ∀ k, k < 6 → k < (kwL i).length → (scByt.getD i []).getD k 0 = i32 (96 + ((kwL i).getD k 0 : Nat)) ∧ 1 ≤ (kwL i).getD k 0 ∧ (kwL i).getD k 0 ≤ 26 := by decide +kernel
theorem take_snocN {l : List Nat} {k : Nat} (h : k < l.length) : l.take (k + 1) = l.take k ++ [l.getD k 0] := by
  rw [← List.take_append_getElem h, List.getD_eq_getElem?_getD, List.getElem?_eq_getElem h]
  rfl
theorem y_wordOf {μ : Mem} {i : Nat} (hi : i < 11) (hQ : Q (.inl (some (.int (i32 (enc 32 (kwL i)))))) μ) : SX10_wordOf [.ref (2000 + i)] μ Q := by
  refine x_in (Nat.le_of_ble_eq_true rfl) ?_
  dsimp only [bX10_wordOf, bX10_wordOf_0]
  obtain ⟨s1, s2, s3⟩ := kw_str i hi
  refine x_for (kwL i).length (fun k av μ' => av = [.ref (2000 + i), .int (i32 (enc 32 ((kwL i).take k))), .int (i32 k)] ∧ μ' = μ) ?_ ?_ (Nat.zero_le _) ⟨rfl, rfl⟩
  · rintro k av μ' hk ⟨rfl, rfl⟩ hJ
    dsimp only [bX10_wordOf, bX10_wordOf_1]
    obtain ⟨e1, e2, e3⟩ := s3 k (by omega) hk
    refine ⟨⟨i, by unfold scN; omega, rfl⟩, i, by unfold scN; omega, rfl, ?_⟩
    dsimp only
    rw [nI_i32, s1, show (6 : Int32) = i32 6 from rfl]
    refine x_le (by omega) (by omega) (fun h => by omega) (fun _ => x_le (by omega) (by omega) (fun h => by omega) (fun _ => ⟨⟨i, by unfold scN; omega, rfl⟩, i, k, by unfold scN; omega, by omega, by rw [nI_i32], ?_⟩))
    dsimp only
    rw [e1]
    refine x_cI (y_withLetter (by omega) (hJ _ _ ⟨?_, rfl⟩))
    rw [take_snocN hk, enc_snoc, show (1 : Int32) = i32 1 from rfl, i32_add, show (96 + ((kwL i).getD k 0 : Nat) : Int) - 96 = ((kwL i).getD k 0 : Nat) by omega]
    rfl
  · rintro av μ' ⟨rfl, rfl⟩
    dsimp only [bX10_wordOf, bX10_wordOf_1]
    refine ⟨⟨i, by unfold scN; omega, rfl⟩, i, by unfold scN; omega, rfl, ?_⟩
    dsimp only
    rw [nI_i32, s1]
    rw [List.take_length]
    exact x_le (by omega) (by omega) (fun _ => x_rI hQ) (fun h => by omega)
theorem sp_ini8 (hz : Zr 170 h I) (hQ : ∀ (h' : Nat → Nat → Bool) (I' : IM), (∀ q', q' < 169 → h' q' = h q') → (∀ q', q' < 169 → I' q' = I q') → Fl h' 169 → Fl h' 170 → Zr 171 h' I' → Qw I' → Q (.inl none) (Mk 171 h' I')) : SX8_init [.ref 169, .ref 1] (Mk 170 h I) Q := by
  refine x_in (Nat.le_of_ble_eq_true rfl) ?_
  dsimp only [bX8_init, bX8_init_0]
  ((try rw [show (0 : Int32) = i32 (0) from rfl]); (try rw [show (1 : Int32) = i32 (1) from rfl]); (try rw [show (2 : Int32) = i32 (2) from rfl]); (try rw [show (3 : Int32) = i32 (3) from rfl]); (try rw [show (4 : Int32) = i32 (4) from rfl]); (try rw [show (5 : Int32) = i32 (5) from rfl]); (try rw [show (6 : Int32) = i32 (6) from rfl]); (try rw [show (7 : Int32) = i32 (7) from rfl]); (try rw [show (8 : Int32) = i32 (8) from rfl]); (try rw [show (9 : Int32) = i32 (9) from rfl]); (try rw [show (10 : Int32) = i32 (10) from rfl]); (try rw [show (15 : Int32) = i32 (15) from rfl]); (try simp only [i32_add, i32_sub, i32_mul, i32_neg]))
  refine y_pI rfl (by omega) (y_pI rfl (by omega) (y_pI rfl (by omega) (y_pI rfl (by omega) (y_pI rfl (by omega) (y_pR rfl (by omega) rfl ?_)))))
  have fI : ∀ q, q ≠ 169 → (up (up (up (up (up I 169 ((2 : Nat) : Int) 15) 169 ((3 : Nat) : Int) 0) 169 ((4 : Nat) : Int) 0) 169 ((5 : Nat) : Int) 0) 169 ((6 : Nat) : Int) 0) q = I q := fun q a => by rw [up_qf a, up_qf a, up_qf a, up_qf a, up_qf a]
  generalize up (up (up (up (up I 169 ((2 : Nat) : Int) 15) 169 ((3 : Nat) : Int) 0) 169 ((4 : Nat) : Int) 0) 169 ((5 : Nat) : Int) 0) 169 ((6 : Nat) : Int) 0 = I1 at *
  have z1 : Zr 170 (hs h 169 0) I1 := fun q' hq' => ⟨fun k => by rw [hs_ne (by omega)]; exact (hz q' hq').1 k, fun k => by rw [fI q' (by omega)]; exact (hz q' hq').2 k⟩
  refine y_nA rfl (by decide) (by decide) rfl z1 ?_
  have z2 := z1.le (n' := 171) (by omega)
  have step : ∀ {i : Nat} {I2 : IM} {F : Sem}, i < 11 → F (Mk 171 (hs h 169 0) (up I2 170 i (enc 32 (kwL i)))) Q → (cI SX10_wordOf [.ref (2000 + i)] fun v => sA 170 (i32 (i : Int)) v F) (Mk 171 (hs h 169 0) I2) Q := by
    intro i I2 F hi hF
    exact x_cI (y_wordOf hi (y_sA rfl (by omega) (by omega) (by omega) (by omega) hF))
  refine step (i := 0) (by omega) (step (i := 1) (by omega) (step (i := 2) (by omega) (step (i := 3) (by omega) (step (i := 4) (by omega) (step (i := 5) (by omega) (step (i := 6) (by omega) (step (i := 7) (by omega) (step (i := 8) (by omega) (step (i := 9) (by omega) (step (i := 10) (by omega) ?_))))))))))
  refine y_pR rfl (by omega) rfl (x_rV (hQ _ _ (fun q' a => by rw [hs_ne (by omega), hs_ne (by omega)]) (fun q' a => ?_) ?_ (fl_none fun k => rfl) ?_ ?_))
  · rw [up_qf (by omega), up_qf (by omega), up_qf (by omega), up_qf (by omega), up_qf (by omega), up_qf (by omega), up_qf (by omega), up_qf (by omega), up_qf (by omega), up_qf (by omega), up_qf (by omega)]
    exact fI q' (by omega)
  · intro k hk
    match k, hk with
    | 0, _ | 1, _ => simp [hs]
    | k + 2, hk => exact absurd rfl hk
  · intro q' hq'
    refine ⟨fun k => by rw [hs_ne (by omega), hs_ne (by omega)]; exact (hz q' (by omega)).1 k, fun k => ?_⟩
    rw [up_qf (by omega), up_qf (by omega), up_qf (by omega), up_qf (by omega), up_qf (by omega), up_qf (by omega), up_qf (by omega), up_qf (by omega), up_qf (by omega), up_qf (by omega), up_qf (by omega)]
    exact (z2 q' (by omega)).2 k
  · intro i hi
    rcases (show i = 0 ∨ i = 1 ∨ i = 2 ∨ i = 3 ∨ i = 4 ∨ i = 5 ∨ i = 6 ∨ i = 7 ∨ i = 8 ∨ i = 9 ∨ i = 10 by omega) with rfl | rfl | rfl | rfl | rfl | rfl | rfl | rfl | rfl | rfl | rfl
    all_goals simp only [up_at]
    all_goals simp
theorem sp_ini5 (hz : Zr 154 h I) (hQ : ∀ (h' : Nat → Nat → Bool) (I' : IM), (∀ q', q' < 153 → h' q' = h q') → (∀ q', q' < 153 → I' q' = I q') → (∀ q', 153 ≤ q' → q' < 171 → Fl h' q') → Zr 171 h' I' → Qw I' → Q (.inl none) (Mk 171 h' I')) : SX5_init [.ref 153, .ref 1] (Mk 154 h I) Q := by
  refine x_in (Nat.le_of_ble_eq_true rfl) ?_
  dsimp only [bX5_init, bX5_init_0]
  ((try rw [show (0 : Int32) = i32 (0) from rfl]); (try rw [show (-1 : Int32) = i32 (-1) from rfl]); (try simp only [i32_add, i32_sub, i32_mul, i32_neg]))
  refine y_nO rfl hz (x_cV (sp_ini9_154 (hz.le (by omega)) (fun k => (hz 154 (by omega)).2 k) fun h1 f1 l1 z1 => ?_))
  refine y_pR rfl (by omega) rfl ?_
  have z1 := z1.hs (q := 153) (k := 1) (by omega)
  refine y_nO rfl z1 (x_cV (sp_init6 st157 (z1.le (by omega)) (fun k => (hz 157 (by omega)).2 k) fun h2 I2 f2 g2 l2 z2 _ => ?_))
  refine y_pR rfl (by omega) rfl ?_
  have z2 := z2.hs (q := 153) (k := 2) (by omega)
  refine y_nA rfl (by decide) (by decide) rfl z2 ?_
  have z3 := (z2.le (n' := 169) (by omega)).hs (q := 153) (k := 3) (by omega)
  refine y_pR rfl (by omega) rfl (y_pI rfl (by omega) (y_pI rfl (by omega) (y_pI rfl (by omega) ?_)))
  have fI : ∀ q, q ≠ 153 → (up (up (up I2 153 ((4 : Nat) : Int) 0) 153 ((5 : Nat) : Int) (-1)) 153 ((6 : Nat) : Int) 0) q = I2 q := fun q a => by rw [up_qf a, up_qf a, up_qf a]
  generalize up (up (up I2 153 ((4 : Nat) : Int) 0) 153 ((5 : Nat) : Int) (-1)) 153 ((6 : Nat) : Int) 0 = I3 at *
  have z4 : Zr 169 (hs (hs h2 153 2) 153 3) I3 := fun q' hq' => ⟨(z3 q' hq').1, fun k => by rw [fI q' (by omega)]; exact (z3 q' hq').2 k⟩
  refine y_nO rfl z4 (x_cV (sp_ini8 (z4.le (by omega)) fun h5 I5 f5 g5 l9 l10 z5 q5 => ?_))
  refine y_pR rfl (by omega) rfl (x_rV (hQ _ I5 (fun q' a => ?_) (fun q' a => ?_) (fun q' a b => ?_) (z5.hs (by omega)) q5))
  · rw [hs_ne (by omega), f5 q' (by omega), hs_ne (by omega), hs_ne (by omega), f2 q' (by omega), hs_ne (by omega), f1 q' (by omega)]
  · rw [g5 q' (by omega), fI q' (by omega)]; funext k; exact g2 q' (by omega) k
  · by_cases e1 : q' = 153
    · subst e1
      intro k hk
      match k, hk with
      | 0, _ => exact hs_self
      | 1, _ => refine hs_k ?_; rw [f5 153 (by omega)]; refine hs_k (hs_k ?_); rw [f2 153 (by omega)]; exact hs_self
      | 2, _ => refine hs_k ?_; rw [f5 153 (by omega)]; exact hs_k hs_self
      | 3, _ => refine hs_k ?_; rw [f5 153 (by omega)]; exact hs_self
      | k + 4, hk => exact absurd rfl hk
    · have fl5 : Fl h5 q' → Fl (hs h5 153 0) q' := fun l k hk => hs_k (l k hk)
      apply fl5
      by_cases e2 : q' < 157
      · have l := l1 q' (by omega) (by omega)
        intro k hk
        rw [f5 q' (by omega), hs_ne (by omega), hs_ne (by omega), f2 q' (by omega), hs_ne (by omega)]
        exact l k hk
      · by_cases e3 : q' < 168
        · have l := l2 q' (by omega) (by omega)
          intro k hk
          rw [f5 q' (by omega), hs_ne (by omega), hs_ne (by omega)]
          exact l k hk
        · rcases (show q' = 168 ∨ q' = 169 ∨ q' = 170 by omega) with rfl | rfl | rfl
          · exact fl_none fun k => rfl
          · exact l9
          · exact l10
end Ini62c
