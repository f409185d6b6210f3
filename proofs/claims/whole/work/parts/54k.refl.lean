/-! ===== the reference: its history ===== -/
/-- the reference's rows of 308: a copy -/
theorem sp_X11_copies {e : Nat} {I J : IM} {Q : Post} {r w : Nat} (h1 : kb r = (1, 308)) (h2 : kb w = (1, 308)) (hne : r ≠ w)
    (hQ : ∀ I' : IM, (∀ q, q ≠ w → I' q = I q) → (∀ k : Int, 0 ≤ k → k < 308 → I' w k = I r k) → Q (.inl none) (ME e I' J)) : SX11_copies [.ref r, .ref w] (ME e I J) Q := by
  refine x_in (Nat.le_of_ble_eq_true rfl) ?_
  dsimp only [bX11_copies, bX11_copies_0]
  refine x_for 308 (fun i av μ => ∃ I' : IM, av = [.ref r, .ref w, .int (i32 i)] ∧ μ = ME e I' J ∧ (∀ q, q ≠ w → I' q = I q) ∧ ∀ k : Int, 0 ≤ k → k < i → I' w k = I r k) ?_ ?_ (Nat.zero_le _) ⟨I, by simp [Int.cast_ofNat_Int, Int.natCast_add, Int.toNat_natCast, i32_add, i32_sub, i32_mul, i32_neg, i32_lit, i64_add, i64_sub, i64_mul, i64_neg, i64_lit, i64_int], rfl, fun _ _ => rfl, fun k a b => by omega⟩
  · rintro i av μ hi ⟨I', rfl, rfl, hf, hs⟩ hJ
    dsimp only [bX11_copies, bX11_copies_1]
    rw [show (308 : Int32) = i32 308 from rfl, show (1 : Int32) = i32 1 from rfl]
    refine x_le (by omega) (by omega) (fun h => by omega) (fun _ => ?_)
    refine x_aI h1 (by omega) (by omega) (by omega) (x_sA h2 (by omega) (by omega) (by omega) ?_)
    rw [i32_add]
    refine hJ _ _ ⟨_, rfl, rfl, fun q h => by rw [up_qf h]; exact hf q h, fun k a b => ?_⟩
    rw [up_at, hf r hne]
    split
    · rename_i h; rw [h]
    · exact hs k a (by omega)
  · rintro av μ ⟨I', rfl, rfl, hf, hs⟩
    dsimp only [bX11_copies, bX11_copies_1]
    rw [show (308 : Int32) = i32 308 from rfl]
    exact x_le (by omega) (by omega) (fun _ => x_rV (hQ I' hf hs)) (fun h => by omega)
/-- what the reference keeps before it changes -/
theorem sp_X11_starts {e : Nat} {I J : IM} {Q : Post} (hQ : ∀ I' : IM, (∀ q, q ≠ 202 → I' q = I q) → (∀ k : Int, 0 ≤ k → k < 308 → I' 202 k = I 201 k) → Q (.inl none) (ME e I' J)) : SX11_starts [.ref 200] (ME e I J) Q := by
  refine x_in (Nat.le_of_ble_eq_true rfl) ?_
  dsimp only [bX11_starts, bX11_starts_0]
  exact x_gR rfl rfl (x_gR rfl rfl (x_cV (sp_X11_copies rfl rfl (by omega) fun I' f s => x_rV (hQ I' f s))))
/-- the reference's history: n rows of 308 in place 206, the latest last -/
def HR (I : IM) (n : Nat) (L : Nat → Int → Int) : Prop := I 200 7 = n ∧ n ≤ 10 ∧ ∀ j : Nat, j < n → ∀ k : Int, 0 ≤ k → k < 308 → I 206 (308 * ((n : Int) - 1 - j) + k) = L j k
def pushR (x : Int → Int) (L : Nat → Int → Int) : Nat → Int → Int
  | 0 => x
  | j + 1 => L j
