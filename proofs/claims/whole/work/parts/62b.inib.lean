theorem up_zero {I : IM} {q : Nat} {k : Int} (h : I q k = 0) : up I q k 0 = I := by
  funext q' k'
  simp only [up]
  split
  · rename_i e; rw [e.1, e.2, h]
  · rfl
section Ini62b
variable {Q : Post} {h : Nat → Nat → Bool} {I : IM}
theorem sp_ini7_1 (hz : Zr 2 h I) (h0 : ∀ k, I 1 k = 0) (hQ : ∀ h' : Nat → Nat → Bool, (∀ q', q' < 1 → h' q' = h q') → (∀ q', 1 ≤ q' → q' < 3 → Fl h' q') → Zr 3 h' I → Q (.inl none) (Mk 3 h' I)) : SX7_init [.ref 1, .int 900] (Mk 2 h I) Q := by
  refine x_in (Nat.le_of_ble_eq_true rfl) ?_
  dsimp only [bX7_init, bX7_init_0]
  try rw [show (0 : Int32) = i32 0 from rfl]
  refine y_pI rfl (by omega) ?_
  rw [up_zero (h0 _)]
  refine x_br (fun h => absurd h (by decide)) (fun _ => ?_)
  refine y_nB rfl (by decide) (by decide) rfl hz ?_
  have hz := hz.le (n' := 3) (by omega)
  refine y_pR rfl (by omega) rfl ?_
  have hz := hz.hs (q := 1) (k := 0) (by omega)
  refine x_rV (hQ _ (fun q' a => by simp only [hs_ne (show q' ≠ 1 by omega)]) (fun q' a b => ?_) hz)
  rcases (show q' = 1 ∨ q' = 2 by omega) with rfl | rfl
  · intro k hk
    match k, hk with
    | 0, _ => simp [hs]
    | k + 1, hk => exact absurd rfl hk
  all_goals exact fl_none fun k => rfl
theorem sp_ini7_3 (hz : Zr 4 h I) (h0 : ∀ k, I 3 k = 0) (hQ : ∀ h' : Nat → Nat → Bool, (∀ q', q' < 3 → h' q' = h q') → (∀ q', 3 ≤ q' → q' < 5 → Fl h' q') → Zr 5 h' I → Q (.inl none) (Mk 5 h' I)) : SX7_init [.ref 3, .int 400] (Mk 4 h I) Q := by
  refine x_in (Nat.le_of_ble_eq_true rfl) ?_
  dsimp only [bX7_init, bX7_init_0]
  try rw [show (0 : Int32) = i32 0 from rfl]
  refine y_pI rfl (by omega) ?_
  rw [up_zero (h0 _)]
  refine x_br (fun h => absurd h (by decide)) (fun _ => ?_)
  refine y_nB rfl (by decide) (by decide) rfl hz ?_
  have hz := hz.le (n' := 5) (by omega)
  refine y_pR rfl (by omega) rfl ?_
  have hz := hz.hs (q := 3) (k := 0) (by omega)
  refine x_rV (hQ _ (fun q' a => by simp only [hs_ne (show q' ≠ 3 by omega)]) (fun q' a b => ?_) hz)
  rcases (show q' = 3 ∨ q' = 4 by omega) with rfl | rfl
  · intro k hk
    match k, hk with
    | 0, _ => simp [hs]
    | k + 1, hk => exact absurd rfl hk
  all_goals exact fl_none fun k => rfl
theorem sp_ini9_5 (hz : Zr 6 h I) (h0 : ∀ k, I 5 k = 0) (hQ : ∀ h' : Nat → Nat → Bool, (∀ q', q' < 5 → h' q' = h q') → (∀ q', 5 ≤ q' → q' < 8 → Fl h' q') → Zr 8 h' I → Q (.inl none) (Mk 8 h' I)) : SX9_init [.ref 5] (Mk 6 h I) Q := by
  refine x_in (Nat.le_of_ble_eq_true rfl) ?_
  dsimp only [bX9_init, bX9_init_0]
  try rw [show (0 : Int32) = i32 0 from rfl]
  refine y_pI rfl (by omega) ?_
  rw [up_zero (h0 _)]
  refine y_nA rfl (by decide) (by decide) rfl hz ?_
  have hz := hz.le (n' := 7) (by omega)
  refine y_pR rfl (by omega) rfl ?_
  have hz := hz.hs (q := 5) (k := 1) (by omega)
  refine y_nA rfl (by decide) (by decide) rfl hz ?_
  have hz := hz.le (n' := 8) (by omega)
  refine y_pR rfl (by omega) rfl ?_
  have hz := hz.hs (q := 5) (k := 2) (by omega)
  refine x_rV (hQ _ (fun q' a => by simp only [hs_ne (show q' ≠ 5 by omega)]) (fun q' a b => ?_) hz)
  rcases (show q' = 5 ∨ q' = 6 ∨ q' = 7 by omega) with rfl | rfl | rfl
  · intro k hk
    match k, hk with
    | 1, _ | 2, _ => simp [hs]
    | 0, hk => exact absurd rfl hk
    | k + 3, hk => exact absurd rfl hk
  all_goals exact fl_none fun k => rfl
theorem sp_ini9_154 (hz : Zr 155 h I) (h0 : ∀ k, I 154 k = 0) (hQ : ∀ h' : Nat → Nat → Bool, (∀ q', q' < 154 → h' q' = h q') → (∀ q', 154 ≤ q' → q' < 157 → Fl h' q') → Zr 157 h' I → Q (.inl none) (Mk 157 h' I)) : SX9_init [.ref 154] (Mk 155 h I) Q := by
  refine x_in (Nat.le_of_ble_eq_true rfl) ?_
  dsimp only [bX9_init, bX9_init_0]
  try rw [show (0 : Int32) = i32 0 from rfl]
  refine y_pI rfl (by omega) ?_
  rw [up_zero (h0 _)]
  refine y_nA rfl (by decide) (by decide) rfl hz ?_
  have hz := hz.le (n' := 156) (by omega)
  refine y_pR rfl (by omega) rfl ?_
  have hz := hz.hs (q := 154) (k := 1) (by omega)
  refine y_nA rfl (by decide) (by decide) rfl hz ?_
  have hz := hz.le (n' := 157) (by omega)
  refine y_pR rfl (by omega) rfl ?_
  have hz := hz.hs (q := 154) (k := 2) (by omega)
  refine x_rV (hQ _ (fun q' a => by simp only [hs_ne (show q' ≠ 154 by omega)]) (fun q' a b => ?_) hz)
  rcases (show q' = 154 ∨ q' = 155 ∨ q' = 156 by omega) with rfl | rfl | rfl
  · intro k hk
    match k, hk with
    | 1, _ | 2, _ => simp [hs]
    | 0, hk => exact absurd rfl hk
    | k + 3, hk => exact absurd rfl hk
  all_goals exact fl_none fun k => rfl
theorem sp_ini0_171 (hz : Zr 172 h I) (h0 : ∀ k, I 171 k = 0) (hQ : ∀ h' : Nat → Nat → Bool, (∀ q', q' < 171 → h' q' = h q') → (∀ q', 171 ≤ q' → q' < 185 → Fl h' q') → Zr 185 h' I → Q (.inl none) (Mk 185 h' I)) : SX0_init [.ref 171, .ref 5, .ref 8] (Mk 172 h I) Q := by
  refine x_in (Nat.le_of_ble_eq_true rfl) ?_
  dsimp only [bX0_init, bX0_init_0]
  try rw [show (0 : Int32) = i32 0 from rfl]
  refine y_pI rfl (by omega) ?_
  rw [up_zero (h0 _)]
  refine y_pI rfl (by omega) ?_
  rw [up_zero (h0 _)]
  refine y_nA rfl (by decide) (by decide) rfl hz ?_
  have hz := hz.le (n' := 173) (by omega)
  refine y_pR rfl (by omega) rfl ?_
  have hz := hz.hs (q := 171) (k := 4) (by omega)
  refine y_nA rfl (by decide) (by decide) rfl hz ?_
  have hz := hz.le (n' := 174) (by omega)
  refine y_pR rfl (by omega) rfl ?_
  have hz := hz.hs (q := 171) (k := 5) (by omega)
  refine y_nA rfl (by decide) (by decide) rfl hz ?_
  have hz := hz.le (n' := 175) (by omega)
  refine y_pR rfl (by omega) rfl ?_
  have hz := hz.hs (q := 171) (k := 6) (by omega)
  refine y_nA rfl (by decide) (by decide) rfl hz ?_
  have hz := hz.le (n' := 176) (by omega)
  refine y_pR rfl (by omega) rfl ?_
  have hz := hz.hs (q := 171) (k := 7) (by omega)
  refine y_nA rfl (by decide) (by decide) rfl hz ?_
  have hz := hz.le (n' := 177) (by omega)
  refine y_pR rfl (by omega) rfl ?_
  have hz := hz.hs (q := 171) (k := 8) (by omega)
  refine y_nA rfl (by decide) (by decide) rfl hz ?_
  have hz := hz.le (n' := 178) (by omega)
  refine y_pR rfl (by omega) rfl ?_
  have hz := hz.hs (q := 171) (k := 9) (by omega)
  refine y_nA rfl (by decide) (by decide) rfl hz ?_
  have hz := hz.le (n' := 179) (by omega)
  refine y_pR rfl (by omega) rfl ?_
  have hz := hz.hs (q := 171) (k := 10) (by omega)
  refine y_nA rfl (by decide) (by decide) rfl hz ?_
  have hz := hz.le (n' := 180) (by omega)
  refine y_pR rfl (by omega) rfl ?_
  have hz := hz.hs (q := 171) (k := 11) (by omega)
  refine y_nA rfl (by decide) (by decide) rfl hz ?_
  have hz := hz.le (n' := 181) (by omega)
  refine y_pR rfl (by omega) rfl ?_
  have hz := hz.hs (q := 171) (k := 12) (by omega)
  refine y_nA rfl (by decide) (by decide) rfl hz ?_
  have hz := hz.le (n' := 182) (by omega)
  refine y_pR rfl (by omega) rfl ?_
  have hz := hz.hs (q := 171) (k := 13) (by omega)
  refine y_nA rfl (by decide) (by decide) rfl hz ?_
  have hz := hz.le (n' := 183) (by omega)
  refine y_pR rfl (by omega) rfl ?_
  have hz := hz.hs (q := 171) (k := 14) (by omega)
  refine y_nA rfl (by decide) (by decide) rfl hz ?_
  have hz := hz.le (n' := 184) (by omega)
  refine y_pR rfl (by omega) rfl ?_
  have hz := hz.hs (q := 171) (k := 15) (by omega)
  refine y_nA rfl (by decide) (by decide) rfl hz ?_
  have hz := hz.le (n' := 185) (by omega)
  refine y_pR rfl (by omega) rfl ?_
  have hz := hz.hs (q := 171) (k := 16) (by omega)
  refine y_pR rfl (by omega) rfl ?_
  have hz := hz.hs (q := 171) (k := 0) (by omega)
  refine y_pR rfl (by omega) rfl ?_
  have hz := hz.hs (q := 171) (k := 1) (by omega)
  refine x_rV (hQ _ (fun q' a => by simp only [hs_ne (show q' ≠ 171 by omega)]) (fun q' a b => ?_) hz)
  rcases (show q' = 171 ∨ q' = 172 ∨ q' = 173 ∨ q' = 174 ∨ q' = 175 ∨ q' = 176 ∨ q' = 177 ∨ q' = 178 ∨ q' = 179 ∨ q' = 180 ∨ q' = 181 ∨ q' = 182 ∨ q' = 183 ∨ q' = 184 by omega) with rfl | rfl | rfl | rfl | rfl | rfl | rfl | rfl | rfl | rfl | rfl | rfl | rfl | rfl
  · intro k hk
    match k, hk with
    | 0, _ | 1, _ | 4, _ | 5, _ | 6, _ | 7, _ | 8, _ | 9, _ | 10, _ | 11, _ | 12, _ | 13, _ | 14, _ | 15, _ | 16, _ => simp [hs]
    | 2, hk | 3, hk => exact absurd rfl hk
    | k + 17, hk => exact absurd rfl hk
  all_goals exact fl_none fun k => rfl
theorem sp_ini1_185 (hz : Zr 186 h I) (h0 : ∀ k, I 185 k = 0) (hQ : ∀ h' : Nat → Nat → Bool, (∀ q', q' < 185 → h' q' = h q') → (∀ q', 185 ≤ q' → q' < 191 → Fl h' q') → Zr 191 h' I → Q (.inl none) (Mk 191 h' I)) : SX1_init [.ref 185, .ref 171] (Mk 186 h I) Q := by
  refine x_in (Nat.le_of_ble_eq_true rfl) ?_
  dsimp only [bX1_init, bX1_init_0]
  try rw [show (0 : Int32) = i32 0 from rfl]
  refine y_pI rfl (by omega) ?_
  rw [up_zero (h0 _)]
  refine y_nA rfl (by decide) (by decide) rfl hz ?_
  have hz := hz.le (n' := 187) (by omega)
  refine y_pR rfl (by omega) rfl ?_
  have hz := hz.hs (q := 185) (k := 2) (by omega)
  refine y_nA rfl (by decide) (by decide) rfl hz ?_
  have hz := hz.le (n' := 188) (by omega)
  refine y_pR rfl (by omega) rfl ?_
  have hz := hz.hs (q := 185) (k := 3) (by omega)
  refine y_nA rfl (by decide) (by decide) rfl hz ?_
  have hz := hz.le (n' := 189) (by omega)
  refine y_pR rfl (by omega) rfl ?_
  have hz := hz.hs (q := 185) (k := 4) (by omega)
  refine y_nA rfl (by decide) (by decide) rfl hz ?_
  have hz := hz.le (n' := 190) (by omega)
  refine y_pR rfl (by omega) rfl ?_
  have hz := hz.hs (q := 185) (k := 5) (by omega)
  refine y_nA rfl (by decide) (by decide) rfl hz ?_
  have hz := hz.le (n' := 191) (by omega)
  refine y_pR rfl (by omega) rfl ?_
  have hz := hz.hs (q := 185) (k := 6) (by omega)
  refine y_pR rfl (by omega) rfl ?_
  have hz := hz.hs (q := 185) (k := 0) (by omega)
  refine x_rV (hQ _ (fun q' a => by simp only [hs_ne (show q' ≠ 185 by omega)]) (fun q' a b => ?_) hz)
  rcases (show q' = 185 ∨ q' = 186 ∨ q' = 187 ∨ q' = 188 ∨ q' = 189 ∨ q' = 190 by omega) with rfl | rfl | rfl | rfl | rfl | rfl
  · intro k hk
    match k, hk with
    | 0, _ | 2, _ | 3, _ | 4, _ | 5, _ | 6, _ => simp [hs]
    | 1, hk => exact absurd rfl hk
    | k + 7, hk => exact absurd rfl hk
  all_goals exact fl_none fun k => rfl
theorem sp_ini4_191 (hz : Zr 192 h I) (h0 : ∀ k, I 191 k = 0) (hQ : ∀ h' : Nat → Nat → Bool, (∀ q', q' < 191 → h' q' = h q') → (∀ q', 191 ≤ q' → q' < 198 → Fl h' q') → Zr 198 h' I → Q (.inl none) (Mk 198 h' I)) : SX4_init [.ref 191, .ref 171, .ref 185] (Mk 192 h I) Q := by
  refine x_in (Nat.le_of_ble_eq_true rfl) ?_
  dsimp only [bX4_init, bX4_init_0]
  try rw [show (0 : Int32) = i32 0 from rfl]
  refine y_pI rfl (by omega) ?_
  rw [up_zero (h0 _)]
  refine y_pI rfl (by omega) ?_
  rw [up_zero (h0 _)]
  refine y_nA rfl (by decide) (by decide) rfl hz ?_
  have hz := hz.le (n' := 193) (by omega)
  refine y_pR rfl (by omega) rfl ?_
  have hz := hz.hs (q := 191) (k := 4) (by omega)
  refine y_nA rfl (by decide) (by decide) rfl hz ?_
  have hz := hz.le (n' := 194) (by omega)
  refine y_pR rfl (by omega) rfl ?_
  have hz := hz.hs (q := 191) (k := 5) (by omega)
  refine y_nA rfl (by decide) (by decide) rfl hz ?_
  have hz := hz.le (n' := 195) (by omega)
  refine y_pR rfl (by omega) rfl ?_
  have hz := hz.hs (q := 191) (k := 6) (by omega)
  refine y_nA rfl (by decide) (by decide) rfl hz ?_
  have hz := hz.le (n' := 196) (by omega)
  refine y_pR rfl (by omega) rfl ?_
  have hz := hz.hs (q := 191) (k := 7) (by omega)
  refine y_nA rfl (by decide) (by decide) rfl hz ?_
  have hz := hz.le (n' := 197) (by omega)
  refine y_pR rfl (by omega) rfl ?_
  have hz := hz.hs (q := 191) (k := 8) (by omega)
  refine y_nA rfl (by decide) (by decide) rfl hz ?_
  have hz := hz.le (n' := 198) (by omega)
  refine y_pR rfl (by omega) rfl ?_
  have hz := hz.hs (q := 191) (k := 9) (by omega)
  refine y_pR rfl (by omega) rfl ?_
  have hz := hz.hs (q := 191) (k := 0) (by omega)
  refine y_pR rfl (by omega) rfl ?_
  have hz := hz.hs (q := 191) (k := 1) (by omega)
  refine x_rV (hQ _ (fun q' a => by simp only [hs_ne (show q' ≠ 191 by omega)]) (fun q' a b => ?_) hz)
  rcases (show q' = 191 ∨ q' = 192 ∨ q' = 193 ∨ q' = 194 ∨ q' = 195 ∨ q' = 196 ∨ q' = 197 by omega) with rfl | rfl | rfl | rfl | rfl | rfl | rfl
  · intro k hk
    match k, hk with
    | 0, _ | 1, _ | 4, _ | 5, _ | 6, _ | 7, _ | 8, _ | 9, _ => simp [hs]
    | 2, hk | 3, hk => exact absurd rfl hk
    | k + 10, hk => exact absurd rfl hk
  all_goals exact fl_none fun k => rfl
theorem sp_ini2_198 (hz : Zr 199 h I) (h0 : ∀ k, I 198 k = 0) (hQ : ∀ h' : Nat → Nat → Bool, (∀ q', q' < 198 → h' q' = h q') → (∀ q', 198 ≤ q' → q' < 200 → Fl h' q') → Zr 200 h' I → Q (.inl none) (Mk 200 h' I)) : SX2_init [.ref 198, .ref 171] (Mk 199 h I) Q := by
  refine x_in (Nat.le_of_ble_eq_true rfl) ?_
  dsimp only [bX2_init, bX2_init_0]
  try rw [show (0 : Int32) = i32 0 from rfl]
  refine y_nA rfl (by decide) (by decide) rfl hz ?_
  have hz := hz.le (n' := 200) (by omega)
  refine y_pR rfl (by omega) rfl ?_
  have hz := hz.hs (q := 198) (k := 1) (by omega)
  refine y_pR rfl (by omega) rfl ?_
  have hz := hz.hs (q := 198) (k := 0) (by omega)
  refine x_rV (hQ _ (fun q' a => by simp only [hs_ne (show q' ≠ 198 by omega)]) (fun q' a b => ?_) hz)
  rcases (show q' = 198 ∨ q' = 199 by omega) with rfl | rfl
  · intro k hk
    match k, hk with
    | 0, _ | 1, _ => simp [hs]
    | k + 2, hk => exact absurd rfl hk
  all_goals exact fl_none fun k => rfl
end Ini62b
