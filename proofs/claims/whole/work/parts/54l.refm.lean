/-! ===== the reference: counts ===== -/
section Cnt76
variable {e : Nat} {I J : IM} {Q : Post} {V : Vw} {H : Hw}
theorem ctH_m {m : Nat} (hm : m ≤ 12) {f : Int → Int} (h : ∀ k : Int, m ≤ k → k < 12 → f k = 0) : ctH f 12 = ctH f m := by
  unfold ctH
  exact ct_flat hm fun j h1 h2 => by rw [h j (by omega) (by omega)]; rfl
theorem sp_X11_withHeights (hG : Good V) (hW : Rrw I 201 0 V) (hGH : GoodH (vm V) H) (hH : Rhr I 201 0 (vm V) H) (hQ : Q (.inl (some (.int (i32 (ctH (hh H) (vm V) : Nat))))) (ME e I J)) : SX11_withHeights [.ref 200] (ME e I J) Q := by
  refine x_in (Nat.le_of_ble_eq_true rfl) ?_
  dsimp only [bX11_withHeights, bX11_withHeights_0]
  have m := hG.1
  refine x_for (vm V) (fun i av μ => av = [.ref 200, .int (i32 (ctH (hh H) i : Nat)), .int (i32 i)] ∧ μ = ME e I J) ?_ ?_ (Nat.zero_le _) ⟨by rw [show ctH (hh H) 0 = 0 from rfl]; simp [Int.cast_ofNat_Int, Int.natCast_add, Int.toNat_natCast, i32_add, i32_sub, i32_mul, i32_neg, i32_lit, i64_add, i64_sub, i64_mul, i64_neg, i64_lit, i64_int], rfl⟩
  · rintro i av μ hi ⟨rfl, rfl⟩ hJ
    dsimp only [bX11_withHeights, bX11_withHeights_1]
    have g := (hGH i (by omega) (by omega)).2.1
    have hs : ctH (hh H) (i + 1) = ctH (hh H) i + (if decide (hh H i = 1) = true then 1 else 0) := rfl
    rw [show (1 : Int32) = i32 1 from rfl, show (0 : Int32) = i32 0 from rfl]
    refine x_ob rfl (x_cI (sp_X11_marks hW (x_le (by omega) (by omega) (fun h => by omega) (fun _ => ?_))))
    refine x_ob rfl (x_cI (sp_X11_hasHeight m hGH hH (by omega) ?_))
    dsimp only
    rw [i32_add, i32_add]
    refine x_eq (by omega) (by omega) (fun h => ?_) (fun h => x_lI ?_)
    · rw [if_neg (by simp; omega)] at hs
      exact hJ _ _ ⟨by rw [hs]; rfl, rfl⟩
    · rw [if_pos (by simp; omega)] at hs
      exact hJ _ _ ⟨by rw [hs]; rfl, rfl⟩
  · rintro av μ ⟨rfl, rfl⟩
    dsimp only [bX11_withHeights, bX11_withHeights_1]
    exact x_ob rfl (x_cI (sp_X11_marks hW (x_le (by omega) (by omega) (fun _ => x_rI hQ) (fun h => by omega))))
theorem sp_X11_benches (hG : Good V) (hW : Rrw I 201 0 V) (hGH : GoodH (vm V) H) (hH : Rhr I 201 0 (vm V) H) (hQ : Q (.inl (some (.int (i32 (ctH (hb H) (vm V) : Nat))))) (ME e I J)) : SX11_benches [.ref 200] (ME e I J) Q := by
  refine x_in (Nat.le_of_ble_eq_true rfl) ?_
  dsimp only [bX11_benches, bX11_benches_0]
  have m := hG.1
  refine x_for (vm V) (fun i av μ => av = [.ref 200, .int (i32 (ctH (hb H) i : Nat)), .int (i32 i)] ∧ μ = ME e I J) ?_ ?_ (Nat.zero_le _) ⟨by rw [show ctH (hb H) 0 = 0 from rfl]; simp [Int.cast_ofNat_Int, Int.natCast_add, Int.toNat_natCast, i32_add, i32_sub, i32_mul, i32_neg, i32_lit, i64_add, i64_sub, i64_mul, i64_neg, i64_lit, i64_int], rfl⟩
  · rintro i av μ hi ⟨rfl, rfl⟩ hJ
    dsimp only [bX11_benches, bX11_benches_1]
    have g := (hGH i (by omega) (by omega)).1
    have hs : ctH (hb H) (i + 1) = ctH (hb H) i + (if decide (hb H i = 1) = true then 1 else 0) := rfl
    rw [show (1 : Int32) = i32 1 from rfl, show (2 : Int32) = i32 2 from rfl]
    refine x_ob rfl (x_cI (sp_X11_marks hW (x_le (by omega) (by omega) (fun h => by omega) (fun _ => ?_))))
    refine x_ob rfl (x_cI (sp_X11_of (by omega) (by omega) (by omega) (by omega) ?_))
    dsimp only
    rw [W_bn hH (by omega) (by omega), i32_add, i32_add]
    refine x_lI ?_
    rcases g with g | g
    · rw [if_neg (by simp; omega)] at hs
      exact hJ _ _ ⟨by rw [hs, g]; simp only [Int.cast_ofNat_Int, Int.natCast_add, Int.toNat_natCast, i32_add, i32_sub, i32_mul, i32_neg, i32_lit, i64_add, i64_sub, i64_mul, i64_neg, i64_lit, i64_int, Int.add_zero, Nat.add_zero], rfl⟩
    · rw [if_pos (by simp; omega)] at hs
      exact hJ _ _ ⟨by rw [hs, g]; rfl, rfl⟩
  · rintro av μ ⟨rfl, rfl⟩
    dsimp only [bX11_benches, bX11_benches_1]
    exact x_ob rfl (x_cI (sp_X11_marks hW (x_le (by omega) (by omega) (fun _ => x_rI hQ) (fun h => by omega))))
end Cnt76
