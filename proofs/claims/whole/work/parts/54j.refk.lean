/-! ===== the reference: loops counted ===== -/
section Count75
variable {e : Nat} {I J : IM} {Q : Post} {V : Vw} {b : Int}
theorem sp_X11_closing (hG : Good V) (hW : Rrw I 201 0 V) (hR : Rk I V)
    (hQ : ∀ I' : IM, Wf I I' → Q (.inl (some (.int (i32 (ncl V (vS V 3) 144))))) (ME e I' J)) : SX11_closing [.ref 200] (ME e I J) Q := by
  refine x_in (Nat.le_of_ble_eq_true rfl) ?_
  dsimp only [bX11_closing, bX11_closing_0]
  have h40 : nL V ≤ 40 := by have := nE40 hG; have := lk_rk V 144; unfold nL nE at *; omega
  refine x_for (nL V) (fun i av μ => ∃ (I' : IM) (K : Nat), K ≤ 144 ∧ lk V K = i ∧ av = [.ref 200, .int (i32 (ncl V (vS V 3) K)), .int (i32 i)] ∧ μ = ME e I' J ∧ Wf I I') ?_ ?_ (Nat.zero_le _) ⟨I, 0, by omega, rfl, by rw [show ncl V (vS V 3) 0 = 0 from rfl]; simp [Int.cast_ofNat_Int, Int.natCast_add, Int.toNat_natCast, i32_add, i32_sub, i32_mul, i32_neg, i32_lit, i64_add, i64_sub, i64_mul, i64_neg, i64_lit, i64_int], rfl, Wf.refl I⟩
  · rintro i av μ hi ⟨I', K, hK, hKi, rfl, rfl, hf⟩ hJ
    dsimp only [bX11_closing, bX11_closing_1]
    obtain ⟨k, hk, hE, rfl⟩ := ln_next hi
    have k4 := lk_40 hG hk hE
    have hKk : K ≤ k := by
      rcases Nat.lt_or_ge k K with h | h
      · have := ct_lt (isL V) h hE
        unfold lk at hKi; omega
      · exact h
    have gap := lk_gap hKi.symm
    have f1 : ncl V (vS V 3) k = ncl V (vS V 3) K := ct_flat hKk fun j h1 h2 => by rw [gap j h1 h2]; rfl
    rw [← f1]
    have hk1 : lk V (k + 1) = lk V k + 1 := by rw [lk_succ, if_pos hE]
    have hs : ncl V (vS V 3) (k + 1) = ncl V (vS V 3) k + (if clo V (vS V 3) k = true then 1 else 0) := by
      show ncl V (vS V 3) k + (if (isL V k && clo V (vS V 3) k) = true then 1 else 0) = _
      rw [hE, Bool.true_and]
    refine x_ob rfl (x_cI (sp_X11_loops hG (hf.rk hR) (x_le (by omega) (by omega) (fun h => by omega) (fun _ => ?_))))
    refine x_ob rfl (x_cI (sp_X11_closes hG (hf.rw' hW) (hf.rk hR) hk hE fun I2 f2 => ?_))
    dsimp only
    rw [show (0 : Int32) = i32 0 from rfl, show (1 : Int32) = i32 1 from rfl, i32_add, i32_add]
    by_cases hc : clo V (vS V 3) k = true
    · rw [if_pos hc] at hs ⊢
      refine x_eq (by omega) (by omega) (fun h => by omega) (fun _ => x_lI ?_)
      exact hJ _ _ ⟨I2, k + 1, by omega, hk1, by rw [hs]; rfl, rfl, hf.trans f2⟩
    · rw [if_neg hc] at hs ⊢
      refine x_eq (by omega) (by omega) (fun _ => ?_) (fun h => by omega)
      exact hJ _ _ ⟨I2, k + 1, by omega, hk1, by rw [hs]; rfl, rfl, hf.trans f2⟩
  · rintro av μ ⟨I', K, hK, hKi, rfl, rfl, hf⟩
    dsimp only [bX11_closing, bX11_closing_1]
    have f1 : ncl V (vS V 3) 144 = ncl V (vS V 3) K := ct_flat hK fun j h1 h2 => by rw [lk_gap hKi.symm j h1 h2]; rfl
    have hq := hQ I' hf
    rw [f1] at hq
    exact x_ob rfl (x_cI (sp_X11_loops hG (hf.rk hR) (x_le (by omega) (by omega) (fun _ => x_rI hq) (fun h => by omega))))
end Count75
