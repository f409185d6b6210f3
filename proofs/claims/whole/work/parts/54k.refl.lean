/-! ===== the reference: its history ===== -/
/-- the reference's rows of 308: a copy -/
theorem sp_X11_copies {e : Nat} {I J : IM} {Q : Post} {r w : Nat} (h1 : kb r = (1, 308)) (h2 : kb w = (1, 308)) (hne : r ≠ w)
    (hQ : ∀ I' : IM, (∀ q, q ≠ w → I' q = I q) → (∀ k : Int, 0 ≤ k → k < 308 → I' w k = I r k) → Q (.inl none) (ME e I' J)) : SX11_copies [.ref r, .ref w] (ME e I J) Q := by
  refine x_in (Nat.le_of_ble_eq_true rfl) ?_
  dsimp only [bX11_copies, bX11_copies_0]
  refine x_for 308 (fun i av μ => ∃ I' : IM, av = [.ref r, .ref w, .int (i32 i)] ∧ μ = ME e I' J ∧ (∀ q, q ≠ w → I' q = I q) ∧ ∀ k : Int, 0 ≤ k → k < i → I' w k = I r k) ?_ ?_ (Nat.zero_le _) ⟨I, by simp [Int.cast_ofNat_Int, Int.natCast_add, Int.toNat_natCast, i32_add, i32_sub, i32_mul, i32_neg, i32_lit, i64_add, i64_sub, i64_mul, i64_neg, i64_lit, i64_int], rfl, fun _ _ => rfl, fun k a b => by omega⟩
  · rintro i av μ hi ⟨I', rfl, rfl, hf, hs⟩ hJ
    dsimp only [bX11_copies, bX11_copies_1]
    rw [show (308 : Int32) = i32 308 from rfl, show (1 : Int32) = i32 1 from rfl]
    refine x_le (by omega) (by omega) (fun h => by omega) (fun _ => ?_)
    refine x_aI h1 (by omega) (by omega) (by omega) (x_sA h2 (by omega) (by omega) (by omega) ?_)
    rw [i32_add]
    refine hJ _ _ ⟨_, rfl, rfl, fun q h => by rw [up_qf h]; exact hf q h, fun k a b => ?_⟩
    rw [up_at, hf r hne]
    split
    · rename_i h; rw [h]
    · exact hs k a (by omega)
  · rintro av μ ⟨I', rfl, rfl, hf, hs⟩
    dsimp only [bX11_copies, bX11_copies_1]
    rw [show (308 : Int32) = i32 308 from rfl]
    exact x_le (by omega) (by omega) (fun _ => x_rV (hQ I' hf hs)) (fun h => by omega)
/-- what the reference keeps before it changes -/
theorem sp_X11_starts {e : Nat} {I J : IM} {Q : Post} (hQ : ∀ I' : IM, (∀ q, q ≠ 202 → I' q = I q) → (∀ k : Int, 0 ≤ k → k < 308 → I' 202 k = I 201 k) → Q (.inl none) (ME e I' J)) : SX11_starts [.ref 200] (ME e I J) Q := by
  refine x_in (Nat.le_of_ble_eq_true rfl) ?_
  dsimp only [bX11_starts, bX11_starts_0]
  exact x_gR rfl rfl (x_gR rfl rfl (x_cV (sp_X11_copies rfl rfl (by omega) fun I' f s => x_rV (hQ I' f s))))
/-- the reference's history: n rows of 308 in place 206, the latest last -/
def HR (I : IM) (n : Nat) (L : Nat → Int → Int) : Prop := I 200 7 = n ∧ n ≤ 10 ∧ ∀ j : Nat, j < n → ∀ k : Int, 0 ≤ k → k < 308 → I 206 (308 * ((n : Int) - 1 - j) + k) = L j k
def pushR (x : Int → Int) (L : Nat → Int → Int) : Nat → Int → Int
  | 0 => x
  | j + 1 => L j
theorem sp_done2 {e : Nat} {I J : IM} {Q : Post} {v : Int} {n : Nat} (hn : n < 10) (h7 : I 200 7 = n)
    (hQ : ∀ I' : IM, (∀ q, q ≠ 200 → q ≠ 206 → I' q = I q) → (∀ k, k ≠ 7 → I' 200 k = I 200 k) → I' 200 7 = (n : Int) + 1 → (∀ k : Int, 0 ≤ k → k < 308 → I' 206 (308 * (n : Int) + k) = I 202 k) → (∀ k : Int, k < 308 * (n : Int) → I' 206 k = I 206 k) → Q (.inl (some (.int (i32 v)))) (ME e I' J)) :
    fx bX11_done 2 [.ref 200, .int (i32 v), .int (i32 0)] (ME e I J) Q := by
  refine x_for 308 (fun i av μ => ∃ I' : IM, av = [.ref 200, .int (i32 v), .int (i32 i)] ∧ μ = ME e I' J ∧ (∀ q, q ≠ 206 → I' q = I q) ∧ (∀ k : Int, 0 ≤ k → k < i → I' 206 (308 * (n : Int) + k) = I 202 k) ∧ ∀ k : Int, k < 308 * (n : Int) → I' 206 k = I 206 k) ?_ ?_ (Nat.zero_le _) ⟨I, by simp [Int.cast_ofNat_Int, Int.natCast_add, Int.toNat_natCast, i32_add, i32_sub, i32_mul, i32_neg, i32_lit, i64_add, i64_sub, i64_mul, i64_neg, i64_lit, i64_int], rfl, fun _ _ => rfl, fun k a b => by omega, fun _ _ => rfl⟩
  · rintro i av μ hi ⟨I', rfl, rfl, hf, hs, hl⟩ hJ
    dsimp only [bX11_done, bX11_done_2]
    have g7 : I' 200 7 = n := by rw [hf 200 (by omega)]; exact h7
    rw [show (308 : Int32) = i32 308 from rfl, show (1 : Int32) = i32 1 from rfl]
    refine x_le (by omega) (by omega) (fun h => by omega) (fun _ => ?_)
    refine x_gR rfl rfl (x_gI rfl (x_gR rfl rfl (x_aI rfl (by omega) (by omega) (by omega) ?_)))
    rw [show I' 200 ((7 : Nat) : Int) = (n : Int) from g7, i32_mul, i32_add, i32_add]
    refine x_sA rfl (by omega) (by omega) (by omega) ?_
    refine hJ _ _ ⟨_, rfl, rfl, fun q h => by rw [up_qf h]; exact hf q h, fun k a b => ?_, fun k h => by rw [up_k (by omega)]; exact hl k h⟩
    rw [up_at, hf 202 (by omega)]
    split
    · rename_i h; rw [show k = i by omega]
    · exact hs k a (by omega)
  · rintro av μ ⟨I', rfl, rfl, hf, hs, hl⟩
    dsimp only [bX11_done, bX11_done_2]
    have g7 : I' 200 7 = n := by rw [hf 200 (by omega)]; exact h7
    rw [show (308 : Int32) = i32 308 from rfl, show (1 : Int32) = i32 1 from rfl]
    refine x_le (by omega) (by omega) (fun _ => x_gI rfl ?_) (fun h => by omega)
    rw [show I' 200 ((7 : Nat) : Int) = (n : Int) from g7, i32_add]
    refine x_pI rfl (x_rI ?_)
    rw [show ((7 : Nat) : Int) = 7 from rfl]
    exact hQ _ (fun q a b => by rw [up_qf a]; exact hf q b) (fun k h => by rw [up_k h, hf 200 (by omega)]) up_self (fun k a b => by rw [up_q (by omega)]; exact hs k a b) (fun k h => by rw [up_q (by omega)]; exact hl k h)
theorem sp_X11_done {e : Nat} {I J : IM} {Q : Post} {v : Int} {n : Nat} {L : Nat → Int → Int} (hH : HR I n L)
    (hQ : ∀ I' : IM, (∀ q, q ≠ 200 → q ≠ 206 → I' q = I q) → (∀ k, k ≠ 7 → I' 200 k = I 200 k) → HR I' (min (n + 1) 10) (pushR (I 202) L) → Q (.inl (some (.int (i32 v)))) (ME e I' J)) : SX11_done [.ref 200, .int (i32 v)] (ME e I J) Q := by
  refine x_in (Nat.le_of_ble_eq_true rfl) ?_
  dsimp only [bX11_done, bX11_done_0]
  obtain ⟨h7, hn, hL⟩ := hH
  refine x_gI rfl ?_
  rw [show I 200 ((7 : Nat) : Int) = (n : Int) from h7, show (10 : Int32) = i32 10 from rfl, show (0 : Int32) = i32 0 from rfl]
  refine x_eq (by omega) (by omega) (fun hn10 => ?_) (fun hn10 => ?_)
  · have n10 : n = 10 := by omega
    subst n10
    refine x_for 2772 (fun i av μ => ∃ I' : IM, av = [.ref 200, .int (i32 v), .int (i32 i)] ∧ μ = ME e I' J ∧ (∀ q, q ≠ 206 → I' q = I q) ∧ (∀ k : Int, 0 ≤ k → k < i → I' 206 k = I 206 (k + 308)) ∧ ∀ k : Int, (i : Int) ≤ k → I' 206 k = I 206 k) ?_ ?_ (Nat.zero_le _) ⟨I, by simp [Int.cast_ofNat_Int, Int.natCast_add, Int.toNat_natCast, i32_add, i32_sub, i32_mul, i32_neg, i32_lit, i64_add, i64_sub, i64_mul, i64_neg, i64_lit, i64_int], rfl, fun _ _ => rfl, fun k a b => by omega, fun _ _ => rfl⟩
    · rintro i av μ hi ⟨I', rfl, rfl, hf, hs, hl⟩ hJ
      dsimp only [bX11_done, bX11_done_1]
      rw [show (2772 : Int32) = i32 2772 from rfl, show (308 : Int32) = i32 308 from rfl, show (1 : Int32) = i32 1 from rfl]
      refine x_le (by omega) (by omega) (fun h => by omega) (fun _ => ?_)
      rw [i32_add, i32_add]
      refine x_gR rfl rfl (x_gR rfl rfl (x_aI rfl (by omega) (by omega) (by omega) (x_sA rfl (by omega) (by omega) (by omega) ?_)))
      refine hJ _ _ ⟨_, rfl, rfl, fun q h => by rw [up_qf h]; exact hf q h, fun k a b => ?_, fun k h => by rw [up_k (by omega)]; exact hl k (by omega)⟩
      rw [up_at]
      split
      · rename_i h; rw [h]; exact hl _ (by omega)
      · exact hs k a (by omega)
    · rintro av μ ⟨I', rfl, rfl, hf, hs, hl⟩
      dsimp only [bX11_done, bX11_done_1]
      rw [show (2772 : Int32) = i32 2772 from rfl, show (1 : Int32) = i32 1 from rfl, show (0 : Int32) = i32 0 from rfl]
      refine x_le (by omega) (by omega) (fun _ => x_gI rfl ?_) (fun h => by omega)
      rw [show I' 200 ((7 : Nat) : Int) = 10 by rw [hf 200 (by omega)]; exact h7, i32_sub]
      refine x_pI rfl ?_
      rw [show ((7 : Nat) : Int) = 7 from rfl]
      refine sp_done2 (n := 9) (by omega) (by rw [up_self]; rfl) fun I2 g1 g2 g3 g4 g5 => hQ I2 (fun q a b => by rw [g1 q a b, up_qf a, hf q b]) (fun k h => by rw [g2 k h, up_k h, hf 200 (by omega)]) ⟨by rw [g3]; rfl, by omega, fun j hj k a b => ?_⟩
      cases j with
      | zero =>
        have := g4 k a b
        rw [up_q (by omega), hf 202 (by omega)] at this
        exact this
      | succ j =>
        rw [show (308 : Int) * (((min (10 + 1) 10 : Nat) : Int) - 1 - ((j + 1 : Nat) : Int)) + k = 308 * (8 - (j : Int)) + k by omega, g5 _ (by omega), up_q (by omega), hs _ (by omega) (by omega)]
        have := hL j (by omega) k a b
        rw [show (308 : Int) * (8 - (j : Int)) + k + 308 = 308 * (((10 : Nat) : Int) - 1 - j) + k by omega]
        exact this
  · refine sp_done2 (n := n) (by omega) h7 fun I2 g1 g2 g3 g4 g5 => hQ I2 g1 g2 ⟨by rw [g3]; omega, by omega, fun j hj k a b => ?_⟩
    cases j with
    | zero =>
      rw [show (308 : Int) * (((min (n + 1) 10 : Nat) : Int) - 1 - ((0 : Nat) : Int)) + k = 308 * (n : Int) + k by omega]
      exact g4 k a b
    | succ j =>
      rw [show (308 : Int) * (((min (n + 1) 10 : Nat) : Int) - 1 - ((j + 1 : Nat) : Int)) + k = 308 * ((n : Int) - 1 - j) + k by omega, g5 _ (by omega)]
      exact hL j (by omega) k a b
theorem sp_undo1 {e : Nat} {I J : IM} {Q : Post} {n : Nat} (hn : n < 10) (h7 : I 200 7 = n)
    (hQ : ∀ I' : IM, (∀ q, q ≠ 201 → I' q = I q) → (∀ k : Int, 0 ≤ k → k < 308 → I' 201 k = I 206 (308 * (n : Int) + k)) → Q (.inl (some (.int (i32 n)))) (ME e I' J)) :
    fx bX11_undo 1 [.ref 200, .int (i32 0)] (ME e I J) Q := by
  refine x_for 308 (fun i av μ => ∃ I' : IM, av = [.ref 200, .int (i32 i)] ∧ μ = ME e I' J ∧ (∀ q, q ≠ 201 → I' q = I q) ∧ ∀ k : Int, 0 ≤ k → k < i → I' 201 k = I 206 (308 * (n : Int) + k)) ?_ ?_ (Nat.zero_le _) ⟨I, by simp [Int.cast_ofNat_Int, Int.natCast_add, Int.toNat_natCast, i32_add, i32_sub, i32_mul, i32_neg, i32_lit, i64_add, i64_sub, i64_mul, i64_neg, i64_lit, i64_int], rfl, fun _ _ => rfl, fun k a b => by omega⟩
  · rintro i av μ hi ⟨I', rfl, rfl, hf, hs⟩ hJ
    dsimp only [bX11_undo, bX11_undo_1]
    have g7 : I' 200 7 = n := by rw [hf 200 (by omega)]; exact h7
    rw [show (308 : Int32) = i32 308 from rfl, show (1 : Int32) = i32 1 from rfl]
    refine x_le (by omega) (by omega) (fun h => by omega) (fun _ => ?_)
    refine x_gR rfl rfl (x_gR rfl rfl (x_gI rfl ?_))
    rw [show I' 200 ((7 : Nat) : Int) = (n : Int) from g7, i32_mul, i32_add, i32_add]
    refine x_aI rfl (by omega) (by omega) (by omega) (x_sA rfl (by omega) (by omega) (by omega) ?_)
    refine hJ _ _ ⟨_, rfl, rfl, fun q h => by rw [up_qf h]; exact hf q h, fun k a b => ?_⟩
    rw [up_at, hf 206 (by omega)]
    split
    · rename_i h; rw [h]
    · exact hs k a (by omega)
  · rintro av μ ⟨I', rfl, rfl, hf, hs⟩
    dsimp only [bX11_undo, bX11_undo_1]
    have g7 : I' 200 7 = n := by rw [hf 200 (by omega)]; exact h7
    rw [show (308 : Int32) = i32 308 from rfl]
    refine x_le (by omega) (by omega) (fun _ => x_gI rfl ?_) (fun h => by omega)
    rw [show I' 200 ((7 : Nat) : Int) = (n : Int) from g7]
    exact x_rI (hQ I' hf hs)
/-- the last row taken back -/
theorem sp_X11_undo {e : Nat} {I J : IM} {Q : Post} {n : Nat} {L : Nat → Int → Int} (hH : HR I (n + 1) L)
    (hQ : ∀ I' : IM, (∀ q, q ≠ 200 → q ≠ 201 → I' q = I q) → (∀ k, k ≠ 7 → k ≠ 0 → I' 200 k = I 200 k) → I' 200 0 = 0 → HR I' n (fun j => L (j + 1)) → (∀ k : Int, 0 ≤ k → k < 308 → I' 201 k = L 0 k) → Q (.inl (some (.int (i32 n)))) (ME e I' J)) : SX11_undo [.ref 200] (ME e I J) Q := by
  refine x_in (Nat.le_of_ble_eq_true rfl) ?_
  dsimp only [bX11_undo, bX11_undo_0]
  obtain ⟨h7, hn, hL⟩ := hH
  refine x_gI rfl ?_
  rw [show I 200 ((7 : Nat) : Int) = ((n + 1 : Nat) : Int) from h7, show (1 : Int32) = i32 1 from rfl, show (0 : Int32) = i32 0 from rfl]
  refine x_le (by omega) (by omega) (fun h => by omega) (fun _ => ?_)
  refine x_ob rfl (x_cI (sp_X11_is (by omega) ?_))
  refine x_eq (by omega) (by omega) (fun h => by omega) (fun _ => x_gI rfl ?_)
  rw [show up I 200 0 (1 - 1) 200 ((7 : Nat) : Int) = ((n + 1 : Nat) : Int) by rw [up_k (by decide)]; exact h7, i32_sub]
  refine x_pI rfl ?_
  rw [show ((7 : Nat) : Int) = 7 from rfl, show ((n + 1 : Nat) : Int) - 1 = n by omega]
  refine sp_undo1 (n := n) (by omega) up_self fun I2 g1 g2 => hQ I2 (fun q a b => by rw [g1 q b, up_qf a, up_qf a]) (fun k a b => by rw [g1 200 (by omega), up_k a, up_k b]) (by rw [g1 200 (by omega), up_k (by omega), up_self]; rfl) ⟨by rw [g1 200 (by omega), up_self], by omega, fun j hj k a b => ?_⟩ (fun k a b => ?_)
  · rw [g1 206 (by omega), up_q (by omega), up_q (by omega)]
    have := hL (j + 1) (by omega) k a b
    rw [show (308 : Int) * ((n : Int) - 1 - j) + k = 308 * (((n + 1 : Nat) : Int) - 1 - ((j + 1 : Nat) : Int)) + k by omega]
    exact this
  · rw [g2 k a b, up_q (by omega), up_q (by omega)]
    have := hL 0 (by omega) k a b
    rw [show (308 : Int) * (n : Int) + k = 308 * (((n + 1 : Nat) : Int) - 1 - ((0 : Nat) : Int)) + k by omega]
    exact this
