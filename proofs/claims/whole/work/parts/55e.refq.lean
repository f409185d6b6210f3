/-! ===== the reference: it relaxes ===== -/
section Rlx81
variable {e : Nat} {I J : IM} {Q : Post} {V : Vw} {H : Hw} {b : Int}
theorem Rhr_set {m : Nat} {h : Int} (hH : Rhr I 201 0 m H) (hb : hh H b = 1) : Rhr (up I 201 (8 + 5 * b + 4) h) 201 0 m (putH H b h) := by
  intro k h0 h1
  have t := hH k h0 h1
  rw [putH_hb, putH_hh, putH_hv]
  refine ⟨?_, ?_, ?_⟩
  · rw [up_k (by omega)]; exact t.1
  · rw [up_k (by omega)]
    by_cases e : k = b
    · subst e; rw [if_pos rfl, ← hb]; exact t.2.1
    · rw [if_neg e]; exact t.2.1
  · by_cases e : k = b
    · subst e; rw [if_pos rfl, if_pos rfl, show (0 : Int) + 8 + 5 * k + 4 = 8 + 5 * k + 4 by omega, up_self]; exact fun _ => rfl
    · rw [if_neg e, if_neg e, up_k (by omega)]; exact t.2.2
theorem raW_rg (hG : Good V) {a : Int} : 0 ≤ raW V H b a ∧ raW V H b a ≤ 40000000 := by
  unfold raW
  split
  · rename_i h; exact wgt_rg hG h.2.1
  · omega
theorem raS_rg (hG : Good V) (hB : HB (vm V) H 2000000000) (hb : mark12 b) {a : Int} (ha : 0 ≤ a ∧ a < vm V) : -80002067120000000 ≤ raS V H b a ∧ raS V H b a ≤ 80002067120000000 := by
  have m := hG.1
  unfold raS
  split
  · rename_i h
    have w := wgt_rg hG h.2.1
    have x := hB a ha.1 ha.2 h.2.2
    have r := rf_bd hG (a := a) (b := b) ⟨ha.1, by omega⟩ hb h.2.1
    have y := mul_bd (a := hv H a + rf V a b) (b := wgt V (pq a b)) (A := 2000051678) (B := 40000000) (by omega) w
    rw [Int.mul_comm (hv H a + rf V a b) (wgt V (pq a b))] at y
    omega
  · omega
theorem sp_X11_relaxes (hG : Good V) (hW : Rrw I 201 0 V) (hE : Ee I V) (hGH : GoodH (vm V) H) (hH : Rhr I 201 0 (vm V) H) (hB : HB (vm V) H 2000000000) (hb0 : 0 ≤ b ∧ b < vm V) (hhb : hh H b = 1)
    (hQ : ∀ I' : IM, (∀ q, q ≠ 201 → I' q = I q) → Rrw I' 201 0 V → Rhr I' 201 0 (vm V) (putH H b (mean V H b)) → Q (.inl (some (.int (i32 (if mean V H b ≠ hv H b then 1 else 0))))) (ME e I' J)) : SX11_relaxes [.ref 200, .int (i32 b)] (ME e I J) Q := by
  refine x_in (Nat.le_of_ble_eq_true rfl) ?_
  dsimp only [bX11_relaxes, bX11_relaxes_0]
  have m := hG.1
  have hbm : mark12 b := ⟨hb0.1, by omega⟩
  ((try rw [show (0 : Int32) = i32 (0) from rfl]); (try simp only [i32_add, i32_sub, i32_mul, i32_neg]))
  rw [show (0 : Int64) = i64 0 from rfl]
  refine x_for (vm V) (fun i av μ => av = [.ref 200, .int (i32 b), .long (i64 (sm (raS V H b) i)), .long (i64 (sm (raW V H b) i)), .int (i32 i)] ∧ μ = ME e I J) ?_ ?_ (Nat.zero_le _) ⟨by simp [sm], rfl⟩
  · rintro a av μ ha ⟨rfl, rfl⟩ hJ
    dsimp only [bX11_relaxes, bX11_relaxes_1]
    ((try rw [show (0 : Int32) = i32 (0) from rfl]); (try rw [show (1 : Int32) = i32 (1) from rfl]); (try rw [show (4 : Int32) = i32 (4) from rfl]); (try simp only [i32_add, i32_sub, i32_mul, i32_neg]))
    have s1 : sm (raS V H b) (a + 1) = sm (raS V H b) a + raS V H b a := rfl
    have s2 : sm (raW V H b) (a + 1) = sm (raW V H b) a + raW V H b a := rfl
    have stay : ¬ ((a : Int) ≠ b ∧ isE V (pq a b) = true ∧ hh H a = 1) → fx bX11_relaxes 1 [.ref 200, .int (i32 b), .long (i64 (sm (raS V H b) a)), .long (i64 (sm (raW V H b) a)), .int (i32 ((a : Int) + 1))] (ME e I J) Q := fun h => by
      have z1 : raS V H b a = 0 := by unfold raS; rw [if_neg h]
      have z2 : raW V H b a = 0 := by unfold raW; rw [if_neg h]
      exact hJ _ _ ⟨by rw [s1, s2, z1, z2, Int.add_zero, Int.add_zero]; simp only [Int.cast_ofNat_Int, Int.natCast_add, Int.toNat_natCast, i32_add, i32_sub, i32_mul, i32_neg, i32_lit, i64_add, i64_sub, i64_mul, i64_neg, i64_lit, i64_int], rfl⟩
    have ga := (hGH a (by omega) (by omega)).2.1
    refine x_ob rfl (x_cI (sp_X11_marks hW (x_le (by omega) (by omega) (fun h => by omega) (fun _ => ?_))))
    refine x_ob rfl (x_cI (sp_X11_isEdge hG hE (by omega) (by omega) ?_))
    by_cases he : (a : Int) ≠ b ∧ isE V (pq a b) = true
    · rw [if_pos he]
      refine x_eq (by omega) (by omega) (fun h => by omega) (fun _ => ?_)
      refine x_ob rfl (x_cI (sp_X11_hasHeight m hGH hH (by omega) (x_eq (by omega) (by omega) (fun h => stay (fun q => by omega)) (fun h1 => ?_))))
      have h1 : hh H a = 1 := by omega
      have pg := pq_rg (a := (a : Int)) (b := b) (m := 12) (by omega) hbm (by omega) he.1
      have w := wgt_rg hG he.2
      have x := hB a (by omega) (by omega) h1
      have r := rf_bd hG (a := (a : Int)) (b := b) ⟨by omega, by omega⟩ hbm he.2
      refine x_gR rfl rfl (x_cI (sp_X11_pairOf (by omega) hbm (x_aI rfl pg.1 pg.2.1 (by omega) ?_)))
      rw [(hE.2.2 _ pg.1 pg.2.1 he.2).2]
      refine x_ob rfl (x_cI (sp_X11_of (by omega) (by omega) (by omega) (by omega) ?_))
      refine x_ob rfl (x_cI (sp_X11_riseFrom hE (by omega) hbm he.1 he.2 ?_))
      dsimp only
      rw [W_ht hH (by omega) (by omega) h1, i32_add, i32_long (by omega) (by omega), i32_long (by omega) (by omega), i64_mul, i64_add]
      refine x_lJ ?_
      refine x_gR rfl rfl (x_cI (sp_X11_pairOf (by omega) hbm (x_aI rfl pg.1 pg.2.1 (by omega) ?_)))
      rw [(hE.2.2 _ pg.1 pg.2.1 he.2).2, i32_long (by omega) (by omega), i64_add]
      refine x_lJ ?_
      refine hJ _ _ ⟨?_, rfl⟩
      have z1 : raS V H b a = wgt V (pq a b) * (hv H a + rf V a b) := by unfold raS; rw [if_pos ⟨he.1, he.2, h1⟩]
      have z2 : raW V H b a = wgt V (pq a b) := by unfold raW; rw [if_pos ⟨he.1, he.2, h1⟩]
      rw [s1, s2, z1, z2]
      simp only [Int.cast_ofNat_Int, Int.natCast_add, Int.toNat_natCast, i32_add, i32_sub, i32_mul, i32_neg, i32_lit, i64_add, i64_sub, i64_mul, i64_neg, i64_lit, i64_int]
    · rw [if_neg he]
      exact x_eq (by omega) (by omega) (fun _ => stay (fun q => he ⟨q.1, q.2.1⟩)) (fun h => by omega)
  · rintro av μ ⟨rfl, rfl⟩
    dsimp only [bX11_relaxes, bX11_relaxes_1]
    ((try rw [show (0 : Int32) = i32 (0) from rfl]); (try rw [show (4 : Int32) = i32 (4) from rfl]); (try simp only [i32_add, i32_sub, i32_mul, i32_neg]))
    rw [show (0 : Int64) = i64 0 from rfl]
    have e1 := meS_ra hG hGH hb0
    have bW := sm_bd (f := raW V H b) (M := 40000000) (vm V) (fun i _ _ => by have := raW_rg (V := V) (H := H) (b := b) hG (a := i); omega)
    have b0 : 0 ≤ sm (raW V H b) (vm V) := sm_nn _ fun i => (raW_rg hG).1
    have bS := sm_bd (f := raS V H b) (M := 80002067120000000) (vm V) (fun i a c => raS_rg hG hB hbm ⟨a, c⟩)
    have em : mean V H b = if sm (raW V H b) (vm V) = 0 then hv H b else sm (raS V H b) (vm V) / sm (raW V H b) (vm V) := by unfold mean; rw [e1.1, e1.2]
    have mb := mean_bd hG hB hb0 hhb
    have x := hB b hb0.1 hb0.2 hhb
    refine x_ob rfl (x_cI (sp_X11_marks hW (x_le (by omega) (by omega) (fun _ => ?_) (fun h => by omega))))
    refine x_lceq0 (by omega) (by omega) (fun h => ?_) (fun h => ?_)
    · rw [if_pos h] at em
      have hq := hQ I (fun _ _ => rfl) hW
      rw [em, if_neg (by simp)] at hq
      refine x_rZ (v := 0) (by omega) (hq (Rhr_ext hH fun k a c => ⟨rfl, ?_, ?_⟩))
      · rw [putH_hh]; split
        · rename_i q; rw [q]; exact hhb.symm
        · rfl
      · rw [putH_hv]; split
        · rename_i q; rw [q]
        · rfl
    · rw [if_neg h] at em
      refine x_ob rfl (x_cI (sp_X11_of (by omega) (by omega) (by omega) (by omega) ?_))
      dsimp only
      rw [W_ht hH hb0.1 hb0.2 hhb]
      refine x_cJ (sp_J9_floorDiv_f86c9 (by omega) (by omega) ?_)
      dsimp only
      rw [i64_int, ← em]
      refine x_ob rfl (x_cV (sp_X11_lays (by omega) (by omega) (by omega) (by omega) ?_))
      refine x_ob rfl (x_cI (sp_X11_of (by omega) (by omega) (by omega) (by omega) ?_))
      dsimp only
      rw [up_self]
      have hq := hQ _ (fun q a => up_qf a) (Rrw_lay hW (k := b) (f := 4) (v := mean V H b) (by omega) (by omega) (by omega)) (Rhr_set hH hhb)
      refine x_eq (by omega) (by omega) (fun h => ?_) (fun h => ?_)
      · rw [if_neg (fun q => q h)] at hq; exact x_rZ (v := 0) (by omega) hq
      · rw [if_pos h] at hq; exact x_rZ (v := 1) (by omega) hq
theorem Rk.f201 {I I' : IM} (h : Rk I V) (hf : ∀ q, q ≠ 201 → I' q = I q) : Rk I' V :=
  ⟨h.1.keep (by rw [hf 200 (by omega)]) (hf 208 (by omega)) (hf 209 (by omega)) (hf 210 (by omega)), by rw [hf 211 (by omega)]; exact h.2.1, by rw [hf 212 (by omega)]; exact h.2.2⟩
theorem sp_rnd2 (hG : Good V) {n j : Int} (hn : -1000 ≤ n ∧ n ≤ 1000) (hj : -1000 ≤ j ∧ j ≤ 1000) (hW : Rrw I 201 0 V) (hE : Ee I V) (hGH : GoodH (vm V) H) (hH : Rhr I 201 0 (vm V) H) (hB : HB (vm V) H 1900000000)
    (hQ : ∀ I' : IM, (∀ q, q ≠ 201 → I' q = I q) → Rrw I' 201 0 V → Rhr I' 201 0 (vm V) (rr V H (vm V)).2 → ((rr V H (vm V)).1 = false → Q (.inl (some (.int (i32 j)))) (ME e I' J)) ∧ ((rr V H (vm V)).1 = true → fx bX11_rounds 1 [.ref 200, .int (i32 n), .int (i32 (j + 1))] (ME e I' J) Q)) :
    fx bX11_rounds 2 [.ref 200, .int (i32 n), .int (i32 j), .int (i32 0), .int (i32 0)] (ME e I J) Q := by
  have m := hG.1
  refine x_for (vm V) (fun i av μ => ∃ I2 : IM, av = [.ref 200, .int (i32 n), .int (i32 j), .int (i32 (if (rr V H i).1 = true then 1 else 0)), .int (i32 i)] ∧ μ = ME e I2 J ∧ (∀ q, q ≠ 201 → I2 q = I q) ∧ Rrw I2 201 0 V ∧ Rhr I2 201 0 (vm V) (rr V H i).2) ?_ ?_ (Nat.zero_le _) ⟨I, by simp [rr], rfl, fun _ _ => rfl, hW, hH⟩
  · rintro k av μ hk ⟨I2, rfl, rfl, f2, W2, H2⟩ hJ
    dsimp only [bX11_rounds, bX11_rounds_2]
    ((try rw [show (0 : Int32) = i32 (0) from rfl]); (try rw [show (1 : Int32) = i32 (1) from rfl]); (try simp only [i32_add, i32_sub, i32_mul, i32_neg]))
    have ok := rr_ok hG hGH hB k (by omega)
    have B2 : HB (vm V) (rr V H k).2 2000000000 := ok.2.mono (by omega)
    have gk := ok.1 k (by omega) (by omega)
    have hs : rr V H (k + 1) = if hb (rr V H k).2 k = 0 ∧ hh (rr V H k).2 k = 1 then ((rr V H k).1 || decide (mean V (rr V H k).2 k ≠ hv (rr V H k).2 k), putH (rr V H k).2 k (mean V (rr V H k).2 k)) else rr V H k := rfl
    have stay : ¬ (hb (rr V H k).2 k = 0 ∧ hh (rr V H k).2 k = 1) → fx bX11_rounds 2 [.ref 200, .int (i32 n), .int (i32 j), .int (i32 (if (rr V H k).1 = true then 1 else 0)), .int (i32 ((k : Int) + 1))] (ME e I2 J) Q := fun h => by
      rw [if_neg h] at hs
      exact hJ _ _ ⟨I2, by rw [hs]; simp only [Int.cast_ofNat_Int, Int.natCast_add, Int.toNat_natCast, i32_add, i32_sub, i32_mul, i32_neg, i32_lit, i64_add, i64_sub, i64_mul, i64_neg, i64_lit, i64_int], rfl, f2, W2, by rw [hs]; exact H2⟩
    have e2 : Ee I2 V := hE.keep (by rw [f2 200 (by omega)]) (f2 208 (by omega)) (f2 209 (by omega)) (f2 210 (by omega))
    refine x_ob rfl (x_cI (sp_X11_marks W2 (x_le (by omega) (by omega) (fun h => by omega) (fun _ => ?_))))
    refine x_ob rfl (x_cI (sp_X11_hasHeight m ok.1 H2 (by omega) (x_eq (by omega) (by omega) (fun h => stay (fun q => by omega)) (fun h1 => ?_))))
    refine x_ob rfl (x_cI (sp_X11_isBench m ok.1 H2 (by omega) (x_eq (by omega) (by omega) (fun h0 => ?_) (fun h => stay (fun q => by omega)))))
    have hc : hb (rr V H k).2 k = 0 ∧ hh (rr V H k).2 k = 1 := ⟨h0, by omega⟩
    rw [if_pos hc] at hs
    refine x_ob rfl (x_cI (sp_X11_relaxes hG W2 e2 ok.1 H2 B2 (by omega) hc.2 fun I3 f3 W3 H3 => ?_))
    dsimp only
    by_cases hm : mean V (rr V H k).2 k = hv (rr V H k).2 k
    · rw [if_neg (fun q => q hm)]
      refine x_eq (by omega) (by omega) (fun _ => ?_) (fun h => by omega)
      refine hJ _ _ ⟨I3, ?_, rfl, fun q a => by rw [f3 q a, f2 q a], W3, by rw [hs]; exact H3⟩
      rw [hs]
      simp only [hm, ne_eq, not_true_eq_false, decide_false, Bool.or_false, Int.cast_ofNat_Int, Int.natCast_add, Int.toNat_natCast, i32_add, i32_sub, i32_mul, i32_neg, i32_lit, i64_add, i64_sub, i64_mul, i64_neg, i64_lit, i64_int]
    · rw [if_pos hm]
      refine x_eq (by omega) (by omega) (fun h => by omega) (fun _ => ?_)
      refine hJ _ _ ⟨I3, ?_, rfl, fun q a => by rw [f3 q a, f2 q a], W3, by rw [hs]; exact H3⟩
      rw [hs]
      simp only [hm, ne_eq, not_false_eq_true, decide_true, Bool.or_true, if_true, Int.cast_ofNat_Int, Int.natCast_add, Int.toNat_natCast, i32_add, i32_sub, i32_mul, i32_neg, i32_lit, i64_add, i64_sub, i64_mul, i64_neg, i64_lit, i64_int]
  · rintro av μ ⟨I2, rfl, rfl, f2, W2, H2⟩
    dsimp only [bX11_rounds, bX11_rounds_2]
    ((try rw [show (0 : Int32) = i32 (0) from rfl]); (try rw [show (1 : Int32) = i32 (1) from rfl]); (try simp only [i32_add, i32_sub, i32_mul, i32_neg]))
    have hq := hQ I2 f2 W2 H2
    refine x_ob rfl (x_cI (sp_X11_marks W2 (x_le (by omega) (by omega) (fun _ => ?_) (fun h => by omega))))
    cases hr : (rr V H (vm V)).1
    · rw [if_neg (by decide)]
      exact x_eq (by omega) (by omega) (fun _ => x_rI (hq.1 hr)) (fun h => absurd rfl h)
    · rw [if_pos rfl]
      exact x_eq (by omega) (by omega) (fun h => by omega) (fun _ => hq.2 hr)
theorem sp_X11_rounds (hG : Good V) (hW : Rrw I 201 0 V) (hGH : GoodH (vm V) H) (hH : Rhr I 201 0 (vm V) H) (hB : HB (vm V) H 1800000000) {n : Nat} (hn : n ≤ 50)
    (hQ : ∀ I' : IM, (∀ q, q < 207 ∨ 214 < q → q ≠ 200 → q ≠ 201 → I' q = I q) → (∀ k, k ≠ 10 → I' 200 k = I 200 k) → Rk I' V → Rrw I' 201 0 V → Rhr I' 201 0 (vm V) (rbs V n H).2 → Q (.inl (some (.int (i32 ((rbs V n H).1 : Nat))))) (ME e I' J)) : SX11_rounds [.ref 200, .int (i32 n)] (ME e I J) Q := by
  refine x_in (Nat.le_of_ble_eq_true rfl) ?_
  dsimp only [bX11_rounds, bX11_rounds_0]
  have m := hG.1
  ((try rw [show (0 : Int32) = i32 (0) from rfl]); (try simp only [i32_add, i32_sub, i32_mul, i32_neg]))
  refine x_ob rfl (x_cV (sp_X11_reckons hG hW fun I1 f1 f1b R1 => ?_))
  dsimp only
  have W1 : Rrw I1 201 0 V := hW.keep (f1 201 (by omega) (by omega))
  have H1 : Rhr I1 201 0 (vm V) H := hH.keep (f1 201 (by omega) (by omega))
  have key : ∀ (r j : Nat) (H' : Hw) (I2 : IM), j + r = n → (∀ q, q ≠ 201 → I2 q = I1 q) → Rrw I2 201 0 V → GoodH (vm V) H' → Rhr I2 201 0 (vm V) H' → HB (vm V) H' (1800000000 + j * 620136) → ((rbs V n H).1 = j + (rbs V r H').1 ∧ (rbs V n H).2 = (rbs V r H').2) →
      fx bX11_rounds 1 [.ref 200, .int (i32 n), .int (i32 j)] (ME e I2 J) Q := by
    intro r
    induction r with
    | zero =>
      intro j H' I2 hj f2 W2 G2 H2 B2 hr
      refine fx_in ?_
      dsimp only [bX11_rounds, bX11_rounds_1]
      have hq := hQ I2 (fun q a b c => by rw [f2 q c, f1 q (by omega) b]) (fun k h => by rw [f2 200 (by omega), f1b k h]) (R1.f201 f2) W2 (by rw [hr.2]; exact H2)
      rw [hr.1, show j + (rbs V 0 H').1 = n by simp only [rbs]; omega] at hq
      exact x_le (by omega) (by omega) (fun _ => x_rI hq) (fun h => by omega)
    | succ r ih =>
      intro j H' I2 hj f2 W2 G2 H2 B2 hr
      refine fx_in ?_
      dsimp only [bX11_rounds, bX11_rounds_1]
      ((try rw [show (0 : Int32) = i32 (0) from rfl]); (try simp only [i32_add, i32_sub, i32_mul, i32_neg]))
      have ok := rr_ok hG G2 B2 (vm V) (Nat.le_refl _)
      refine x_le (by omega) (by omega) (fun h => by omega) (fun _ => ?_)
      have e2 := (R1.f201 f2).1
      refine sp_rnd2 hG (by omega) (by omega) W2 e2 G2 H2 (B2.mono (by omega)) fun I3 f3 W3 H3 => ⟨fun hf => ?_, fun ht => ?_⟩
      · have hq := hQ I3 (fun q a b c => by rw [f3 q c, f2 q c, f1 q (by omega) b]) (fun k h => by rw [f3 200 (by omega), f2 200 (by omega), f1b k h]) (R1.f201 fun q a => by rw [f3 q a, f2 q a]) W3
        simp only [rbs, hf, Bool.false_eq_true, if_false] at hr
        rw [hr.1, hr.2] at hq
        exact hq H3
      · simp only [rbs, ht, if_true] at hr
        have := ih (j + 1) (rr V H' (vm V)).2 I3 (by omega) (fun q a => by rw [f3 q a, f2 q a]) W3 ok.1 H3 (ok.2.mono (by omega)) ⟨by rw [hr.1]; omega, hr.2⟩
        simpa only [Int.cast_ofNat_Int, Int.natCast_add, Int.toNat_natCast, i32_add, i32_sub, i32_mul, i32_neg, i32_lit, i64_add, i64_sub, i64_mul, i64_neg, i64_lit, i64_int] using this
  exact key n 0 H I1 (by omega) (fun _ _ => rfl) W1 hGH H1 (hB.mono (by omega)) ⟨by omega, rfl⟩
theorem tnA_bd (hG : Good V) (hB : HB (vm V) H 1000000000) (hb0 : 0 ≤ b ∧ b < vm V) (hhb : hh H b = 1) : ∀ K : Nat, K ≤ vm V → 0 ≤ tnA V H b K ∧ tnA V H b K ≤ 2000051678 := by
  intro K hK
  have m := hG.1
  refine ⟨(tnA_ub K).1, ?_⟩
  rcases tnA_at (V := V) (H := H) (b := b) K with h | ⟨a, ha, e, hE, h1, h2⟩
  · omega
  · have x := hB a (by omega) (by omega) h1
    have y := hB b hb0.1 hb0.2 hhb
    have r := rf_bd hG (a := (a : Int)) (b := b) ⟨by omega, by omega⟩ ⟨hb0.1, by omega⟩ hE
    have := (absI_bd (x := hv H b - hv H a - rf V a b) (M := 2000051678) (by omega)).2
    omega
theorem sp_X11_tensionOf (hG : Good V) (hW : Rrw I 201 0 V) (hE : Ee I V) (hGH : GoodH (vm V) H) (hH : Rhr I 201 0 (vm V) H) (hB : HB (vm V) H 1000000000) (hb0 : 0 ≤ b ∧ b < vm V) (hhb : hh H b = 1)
    (hQ : Q (.inl (some (.int (i32 (ten V H b 144))))) (ME e I J)) : SX11_tensionOf [.ref 200, .int (i32 b)] (ME e I J) Q := by
  refine x_in (Nat.le_of_ble_eq_true rfl) ?_
  dsimp only [bX11_tensionOf, bX11_tensionOf_0]
  have m := hG.1
  have hbm : mark12 b := ⟨hb0.1, by omega⟩
  rw [ten_tnA hG hGH hb0] at hQ
  ((try rw [show (0 : Int32) = i32 (0) from rfl]); (try simp only [i32_add, i32_sub, i32_mul, i32_neg]))
  refine x_for (vm V) (fun i av μ => av = [.ref 200, .int (i32 b), .int (i32 (tnA V H b i)), .int (i32 i)] ∧ μ = ME e I J) ?_ ?_ (Nat.zero_le _) ⟨rfl, rfl⟩
  · rintro a av μ ha ⟨rfl, rfl⟩ hJ
    dsimp only [bX11_tensionOf, bX11_tensionOf_1]
    ((try rw [show (0 : Int32) = i32 (0) from rfl]); (try rw [show (1 : Int32) = i32 (1) from rfl]); (try rw [show (4 : Int32) = i32 (4) from rfl]); (try simp only [i32_add, i32_sub, i32_mul, i32_neg]))
    have hs : tnA V H b (a + 1) = if (a : Int) ≠ b ∧ isE V (pq a b) = true ∧ hh H a = 1 then (if tnA V H b a < absI (hv H b - hv H a - rf V a b) then absI (hv H b - hv H a - rf V a b) else tnA V H b a) else tnA V H b a := rfl
    have stay : ¬ ((a : Int) ≠ b ∧ isE V (pq a b) = true ∧ hh H a = 1) → fx bX11_tensionOf 1 [.ref 200, .int (i32 b), .int (i32 (tnA V H b a)), .int (i32 ((a : Int) + 1))] (ME e I J) Q := fun h => by
      rw [if_neg h] at hs
      exact hJ _ _ ⟨by rw [hs]; simp only [Int.cast_ofNat_Int, Int.natCast_add, Int.toNat_natCast, i32_add, i32_sub, i32_mul, i32_neg, i32_lit, i64_add, i64_sub, i64_mul, i64_neg, i64_lit, i64_int], rfl⟩
    have ga := (hGH a (by omega) (by omega)).2.1
    have tb := tnA_bd hG hB hb0 hhb a (by omega)
    refine x_ob rfl (x_cI (sp_X11_marks hW (x_le (by omega) (by omega) (fun h => by omega) (fun _ => ?_))))
    refine x_ob rfl (x_cI (sp_X11_isEdge hG hE (by omega) hbm ?_))
    by_cases he : (a : Int) ≠ b ∧ isE V (pq a b) = true
    · rw [if_pos he]
      refine x_eq (by omega) (by omega) (fun h => by omega) (fun _ => ?_)
      refine x_ob rfl (x_cI (sp_X11_hasHeight m hGH hH (by omega) (x_eq (by omega) (by omega) (fun h => stay (fun q => by omega)) (fun h1 => ?_))))
      have h1 : hh H a = 1 := by omega
      have x := hB a (by omega) (by omega) h1
      have y := hB b hb0.1 hb0.2 hhb
      have r := rf_bd hG (a := (a : Int)) (b := b) ⟨by omega, by omega⟩ hbm he.2
      refine x_ob rfl (x_cI (sp_X11_of hbm.1 hbm.2 (by omega) (by omega) ?_))
      refine x_ob rfl (x_cI (sp_X11_of (by omega) (by omega) (by omega) (by omega) ?_))
      refine x_ob rfl (x_cI (sp_X11_riseFrom hE (by omega) hbm he.1 he.2 ?_))
      dsimp only
      rw [W_ht hH (by omega) (by omega) h1, W_ht hH hb0.1 hb0.2 hhb, i32_sub, i32_sub]
      refine x_cI (sp_J9_abs_0f7a4 (by omega) ?_)
      have ab := absI_bd (x := hv H b - hv H a - rf V a b) (M := 2000051678) (by omega)
      dsimp only
      rw [show (if hv H b - hv H a - rf V a b < 0 then -(hv H b - hv H a - rf V a b) else hv H b - hv H a - rf V a b) = absI (hv H b - hv H a - rf V a b) from rfl]
      refine x_cI (sp_J9_max_7cf53 (by omega) (by omega) ?_)
      dsimp only
      rw [if_pos ⟨he.1, he.2, h1⟩] at hs
      exact hJ _ _ ⟨by rw [hs]; simp only [Int.cast_ofNat_Int, Int.natCast_add, Int.toNat_natCast, i32_add, i32_sub, i32_mul, i32_neg, i32_lit, i64_add, i64_sub, i64_mul, i64_neg, i64_lit, i64_int], rfl⟩
    · rw [if_neg he]
      exact x_eq (by omega) (by omega) (fun _ => stay (fun q => he ⟨q.1, q.2.1⟩)) (fun h => by omega)
  · rintro av μ ⟨rfl, rfl⟩
    dsimp only [bX11_tensionOf, bX11_tensionOf_1]
    exact x_ob rfl (x_cI (sp_X11_marks hW (x_le (by omega) (by omega) (fun _ => x_rI hQ) (fun h => by omega))))
end Rlx81
