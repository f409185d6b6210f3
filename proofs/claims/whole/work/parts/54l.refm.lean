/-! ===== the reference: counts ===== -/
section Cnt76
variable {e : Nat} {I J : IM} {Q : Post} {V : Vw} {H : Hw}
theorem ctH_m {m : Nat} (hm : m ≤ 12) {f : Int → Int} (h : ∀ k : Int, m ≤ k → k < 12 → f k = 0) : ctH f 12 = ctH f m := by
  unfold ctH
  exact ct_flat hm fun j h1 h2 => by rw [h j (by omega) (by omega)]; rfl
theorem sp_X11_withHeights (hG : Good V) (hW : Rrw I 201 0 V) (hGH : GoodH (vm V) H) (hH : Rhr I 201 0 (vm V) H) (hQ : Q (.inl (some (.int (i32 (ctH (hh H) (vm V) : Nat))))) (ME e I J)) : SX11_withHeights [.ref 200] (ME e I J) Q := by
  refine x_in (Nat.le_of_ble_eq_true rfl) ?_
  dsimp only [bX11_withHeights, bX11_withHeights_0]
  have m := hG.1
  refine x_for (vm V) (fun i av μ => av = [.ref 200, .int (i32 (ctH (hh H) i : Nat)), .int (i32 i)] ∧ μ = ME e I J) ?_ ?_ (Nat.zero_le _) ⟨by rw [show ctH (hh H) 0 = 0 from rfl]; simp [Int.cast_ofNat_Int, Int.natCast_add, Int.toNat_natCast, i32_add, i32_sub, i32_mul, i32_neg, i32_lit, i64_add, i64_sub, i64_mul, i64_neg, i64_lit, i64_int], rfl⟩
  · rintro i av μ hi ⟨rfl, rfl⟩ hJ
    dsimp only [bX11_withHeights, bX11_withHeights_1]
    have g := (hGH i (by omega) (by omega)).2.1
    have hs : ctH (hh H) (i + 1) = ctH (hh H) i + (if decide (hh H i = 1) = true then 1 else 0) := rfl
    rw [show (1 : Int32) = i32 1 from rfl, show (0 : Int32) = i32 0 from rfl]
    refine x_ob rfl (x_cI (sp_X11_marks hW (x_le (by omega) (by omega) (fun h => by omega) (fun _ => ?_))))
    refine x_ob rfl (x_cI (sp_X11_hasHeight m hGH hH (by omega) ?_))
    dsimp only
    rw [i32_add, i32_add]
    refine x_eq (by omega) (by omega) (fun h => ?_) (fun h => x_lI ?_)
    · rw [if_neg (by simp; omega)] at hs
      exact hJ _ _ ⟨by rw [hs]; rfl, rfl⟩
    · rw [if_pos (by simp; omega)] at hs
      exact hJ _ _ ⟨by rw [hs]; rfl, rfl⟩
  · rintro av μ ⟨rfl, rfl⟩
    dsimp only [bX11_withHeights, bX11_withHeights_1]
    exact x_ob rfl (x_cI (sp_X11_marks hW (x_le (by omega) (by omega) (fun _ => x_rI hQ) (fun h => by omega))))
theorem sp_X11_benches (hG : Good V) (hW : Rrw I 201 0 V) (hGH : GoodH (vm V) H) (hH : Rhr I 201 0 (vm V) H) (hQ : Q (.inl (some (.int (i32 (ctH (hb H) (vm V) : Nat))))) (ME e I J)) : SX11_benches [.ref 200] (ME e I J) Q := by
  refine x_in (Nat.le_of_ble_eq_true rfl) ?_
  dsimp only [bX11_benches, bX11_benches_0]
  have m := hG.1
  refine x_for (vm V) (fun i av μ => av = [.ref 200, .int (i32 (ctH (hb H) i : Nat)), .int (i32 i)] ∧ μ = ME e I J) ?_ ?_ (Nat.zero_le _) ⟨by rw [show ctH (hb H) 0 = 0 from rfl]; simp [Int.cast_ofNat_Int, Int.natCast_add, Int.toNat_natCast, i32_add, i32_sub, i32_mul, i32_neg, i32_lit, i64_add, i64_sub, i64_mul, i64_neg, i64_lit, i64_int], rfl⟩
  · rintro i av μ hi ⟨rfl, rfl⟩ hJ
    dsimp only [bX11_benches, bX11_benches_1]
    have g := (hGH i (by omega) (by omega)).1
    have hs : ctH (hb H) (i + 1) = ctH (hb H) i + (if decide (hb H i = 1) = true then 1 else 0) := rfl
    rw [show (1 : Int32) = i32 1 from rfl, show (2 : Int32) = i32 2 from rfl]
    refine x_ob rfl (x_cI (sp_X11_marks hW (x_le (by omega) (by omega) (fun h => by omega) (fun _ => ?_))))
    refine x_ob rfl (x_cI (sp_X11_of (by omega) (by omega) (by omega) (by omega) ?_))
    dsimp only
    rw [W_bn hH (by omega) (by omega), i32_add, i32_add]
    refine x_lI ?_
    rcases g with g | g
    · rw [if_neg (by simp; omega)] at hs
      exact hJ _ _ ⟨by rw [hs, g]; simp only [Int.cast_ofNat_Int, Int.natCast_add, Int.toNat_natCast, i32_add, i32_sub, i32_mul, i32_neg, i32_lit, i64_add, i64_sub, i64_mul, i64_neg, i64_lit, i64_int, Int.add_zero, Nat.add_zero], rfl⟩
    · rw [if_pos (by simp; omega)] at hs
      exact hJ _ _ ⟨by rw [hs, g]; rfl, rfl⟩
  · rintro av μ ⟨rfl, rfl⟩
    dsimp only [bX11_benches, bX11_benches_1]
    exact x_ob rfl (x_cI (sp_X11_marks hW (x_le (by omega) (by omega) (fun _ => x_rI hQ) (fun h => by omega))))
end Cnt76
section Mis77
variable {e : Nat} {I J : IM} {Q : Post} {V : Vw} {H : Hw}
theorem sp_X11_misfitNow (hG : Good V) (hW : Rrw I 201 0 V) (hGH : GoodH (vm V) H) (hH : Rhr I 201 0 (vm V) H) (hB : HB (vm V) H 2000000000)
    (hQ : ∀ I' : IM, (∀ q, q < 207 ∨ 212 < q → q ≠ 200 → I' q = I q) → (∀ k, k ≠ 10 → I' 200 k = I 200 k) → Rk I' V → Q (.inl (some (.long (i64 (misf V H))))) (ME e I' J)) : SX11_misfitNow [.ref 200] (ME e I J) Q := by
  refine x_in (Nat.le_of_ble_eq_true rfl) ?_
  dsimp only [bX11_misfitNow, bX11_misfitNow_0]
  have m := hG.1
  refine x_ob rfl (x_cV (sp_X11_reckons hG hW fun I1 f1 f1b R1 => ?_))
  have W1 : Rrw I1 201 0 V := hW.keep (f1 201 (by omega) (by omega))
  have H1 : Rhr I1 201 0 (vm V) H := hH.keep (f1 201 (by omega) (by omega))
  have hq := hQ I1 f1 f1b R1
  have none_ : ∀ K K' : Nat, K ≤ K' → (∀ j : Nat, K ≤ j → j < K' → isE V j = false) → sm (mis0 V H) K' = sm (mis0 V H) K := fun K K' h hn => sm_flat h fun j h1 h2 => by unfold mis0; rw [if_neg (fun q => by rw [hn j h1 h2] at q; exact absurd q.1 (by decide))]
  refine x_for (vm V) (fun i av μ => av = [.ref 200, .long (i64 (sm (mis0 V H) (12 * i))), .int (i32 i)] ∧ μ = ME e I1 J) ?_ ?_ (Nat.zero_le _) ⟨by simp [Int.cast_ofNat_Int, Int.natCast_add, Int.toNat_natCast, i32_add, i32_sub, i32_mul, i32_neg, i32_lit, i64_add, i64_sub, i64_mul, i64_neg, i64_lit, i64_int, sm], rfl⟩
  · rintro a av μ ha ⟨rfl, rfl⟩ hJ
    dsimp only [bX11_misfitNow, bX11_misfitNow_1]
    have fl0 : sm (mis0 V H) (12 * a + (a + 1)) = sm (mis0 V H) (12 * a) := none_ _ _ (by omega) fun j h1 h2 => by
      cases hx : isE V j
      · rfl
      · have := isE_ab hG (by omega) (by omega) hx; omega
    have inner : fx bX11_misfitNow 2 [.ref 200, .long (i64 (sm (mis0 V H) (12 * a + (a + 1)))), .int (i32 a), .int (i32 ((a + 1 : Nat) : Int))] (ME e I1 J) Q := by
      refine x_for (vm V) (fun i av μ => a + 1 ≤ i ∧ av = [.ref 200, .long (i64 (sm (mis0 V H) (12 * a + i))), .int (i32 a), .int (i32 i)] ∧ μ = ME e I1 J) ?_ ?_ (by omega) ⟨by omega, rfl, rfl⟩
      · rintro b av μ hb ⟨hab, rfl, rfl⟩ hJ2
        dsimp only [bX11_misfitNow, bX11_misfitNow_2]
        have pl := pq_lt (a := (a : Int)) (b := b) (by omega) (by omega) (by omega)
        have pg := pq_rg (a := (a : Int)) (b := b) (m := 12) (by omega) (by omega) (by omega) (by omega)
        have hK : ((12 * a + b : Nat) : Int) = pq a b := by rw [pl.1]; omega
        have hs : sm (mis0 V H) (12 * a + b + 1) = sm (mis0 V H) (12 * a + b) + mis0 V H (pq a b) := by simp only [sm]; rw [hK]
        have ga := (hGH a (by omega) (by omega)).2.1
        have gb := (hGH b (by omega) (by omega)).2.1
        have go : ∀ x : Int, mis0 V H (pq a b) = x → fx bX11_misfitNow 2 [.ref 200, .long (i64 (sm (mis0 V H) (12 * a + b) + x)), .int (i32 a), .int (i32 ((b : Int) + 1))] (ME e I1 J) Q := by
          intro x hx
          refine hJ2 _ _ ⟨by omega, by rw [show 12 * a + (b + 1) = 12 * a + b + 1 by omega, hs, hx]; rfl, rfl⟩
        have no : ¬ (isE V (pq a b) = true ∧ hh H a = 1 ∧ hh H b = 1) → fx bX11_misfitNow 2 [.ref 200, .long (i64 (sm (mis0 V H) (12 * a + b))), .int (i32 a), .int (i32 ((b : Int) + 1))] (ME e I1 J) Q := fun h => by
          have := go 0 (by unfold mis0; rw [pl.2.1, pl.2.2, if_neg h])
          rwa [Int.add_zero] at this
        rw [show (1 : Int32) = i32 1 from rfl, show (0 : Int32) = i32 0 from rfl, show (4 : Int32) = i32 4 from rfl]
        refine x_ob rfl (x_cI (sp_X11_marks W1 (x_le (by omega) (by omega) (fun h => by omega) (fun _ => ?_))))
        rw [i32_add]
        refine x_ob rfl (x_cI (sp_X11_isEdge hG R1.1 (by omega) (by omega) ?_))
        by_cases hE : isE V (pq a b) = true
        · rw [if_pos ⟨by omega, hE⟩]
          refine x_eq (by omega) (by omega) (fun h => by omega) (fun _ => ?_)
          refine x_ob rfl (x_cI (sp_X11_hasHeight m hGH H1 (by omega) (x_eq (by omega) (by omega) (fun h => no (fun q => by omega)) (fun h1 => ?_))))
          refine x_ob rfl (x_cI (sp_X11_hasHeight m hGH H1 (by omega) (x_eq (by omega) (by omega) (fun h => no (fun q => by omega)) (fun h2 => ?_))))
          refine x_gR rfl rfl (x_cI (sp_X11_pairOf (by omega) (by omega) (x_aI rfl pg.1 pg.2.1 (by omega) ?_)))
          rw [(R1.1.2.2 _ pg.1 pg.2.1 hE).1]
          refine x_ob rfl (x_cI (sp_X11_of (by omega) (by omega) (by omega) (by omega) ?_))
          refine x_ob rfl (x_cI (sp_X11_of (by omega) (by omega) (by omega) (by omega) ?_))
          have xa := hB a (by omega) (by omega) (by omega)
          have xb := hB b (by omega) (by omega) (by omega)
          have r := gd_ris hG (isE_iff.mp hE)
          dsimp only
          rw [W_ht H1 (by omega) (by omega) (by omega), W_ht H1 (by omega) (by omega) (by omega), i32_long (by omega) (by omega), i32_long (by omega) (by omega), i32_long (by omega) (by omega), i64_sub, i64_sub]
          refine x_lJ ?_
          rw [i64_mul, i64_add]
          refine x_lJ ?_
          refine go _ ?_
          unfold mis0
          rw [pl.2.1, pl.2.2, if_pos ⟨hE, by omega, by omega⟩, show hv H a + ris V (pq a b) - hv H b = ris V (pq a b) - (hv H b - hv H a) by omega]
        · rw [if_neg (fun q => hE q.2)]
          refine x_eq (by omega) (by omega) (fun _ => no (fun q => hE q.1)) (fun h => by omega)
      · rintro av μ ⟨hab, rfl, rfl⟩
        dsimp only [bX11_misfitNow, bX11_misfitNow_2]
        have fl : sm (mis0 V H) (12 * (a + 1)) = sm (mis0 V H) (12 * a + vm V) := none_ _ _ (by omega) fun j h1 h2 => by
          cases hx : isE V j
          · rfl
          · have := isE_ab hG (by omega) (by omega) hx; omega
        rw [show (1 : Int32) = i32 1 from rfl]
        refine x_ob rfl (x_cI (sp_X11_marks W1 (x_le (by omega) (by omega) (fun _ => ?_) (fun h => by omega))))
        rw [i32_add]
        exact hJ _ _ ⟨by rw [fl]; rfl, rfl⟩
    rw [fl0] at inner
    rw [show (1 : Int32) = i32 1 from rfl]
    refine x_ob rfl (x_cI (sp_X11_marks W1 (x_le (by omega) (by omega) (fun h => by omega) (fun _ => ?_))))
    rw [i32_add]
    exact x_lI inner
  · rintro av μ ⟨rfl, rfl⟩
    dsimp only [bX11_misfitNow, bX11_misfitNow_1]
    have fl : sm (mis0 V H) 144 = sm (mis0 V H) (12 * vm V) := none_ _ _ (by omega) fun j h1 h2 => by
      cases hx : isE V j
      · rfl
      · have := isE_ab hG (by omega) (by omega) hx; omega
    unfold misf at hq
    rw [fl] at hq
    exact x_ob rfl (x_cI (sp_X11_marks W1 (x_le (by omega) (by omega) (fun _ => x_rJ hq) (fun h => by omega))))
end Mis77
