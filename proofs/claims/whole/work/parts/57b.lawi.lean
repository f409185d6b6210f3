/-! ===== the reference is asked: loops, heights ===== -/
def jbn (V : Vw) (H : Hw) (a : Int) : Nat → Bool
  | 0 => false
  | k + 1 => jbn V H a k || (decide (hb H k = 1) && decide (fP (forest V) a = fP (forest V) k))
def whyA (V : Vw) (a : Int) (K : Nat) : Int := if ct (isAt V a 1) K = 0 then 1 else if ct (isAt V a 0) K = 0 then 2 else 3
def an_why (V : Vw) (H : Hw) (a : Int) : An := if 0 ≤ a ∧ a < vm V then .inl (if jbn V H a (vm V) = true then 0 else whyA V a (vn V)) else .inr 1
theorem jbn_keep {V : Vw} {H : Hw} {a : Int} {K K' : Nat} (h : K ≤ K') (hj : jbn V H a K = true) : jbn V H a K' = true := by
  obtain ⟨d, rfl⟩ : ∃ d, K' = K + d := ⟨K' - K, by omega⟩
  induction d with
  | zero => exact hj
  | succ d ih =>
    show (jbn V H a (K + d) || _) = true
    rw [ih (by omega)]; rfl
theorem isAt_01 {V : Vw} {a s : Int} : isAt V a 0 s = true → isAt V a 1 s = true := fun h => isAt_iff.mpr ⟨(isAt_iff.mp h).1, Or.inl (by decide)⟩
theorem ct_01 {V : Vw} {a : Int} : ∀ n : Nat, ct (isAt V a 0) n ≤ ct (isAt V a 1) n := by
  intro n
  induction n with
  | zero => exact Nat.le_refl _
  | succ n ih =>
    simp only [ct]
    by_cases h : isAt V a 0 n = true
    · rw [if_pos h, if_pos (isAt_01 h)]; omega
    · rw [if_neg h]; omega
/-! the suspect, as the reference looks for it -/
noncomputable def suR (V : Vw) (lim : Int) : Nat → Int × Int × Int
  | 0 => (-1, 0, 0)
  | k + 1 => if isE V k = true ∧ ((suR V lim k).1 = -1 ∨ ((suR V lim k).2.1 < low V lim k 144 ∨ (low V lim k 144 = (suR V lim k).2.1 ∧ (lwc V k 144 : Int) - low V lim k 144 < (suR V lim k).2.2))) then
      (k, low V lim k 144, (lwc V k 144 : Int) - low V lim k 144) else suR V lim k
theorem su_eq (V : Vw) (lim : Int) : ∀ K : Nat, (sus V lim K = (-1, 0, 0) ∧ (suR V lim K).2.1 = 0) ∨ (sus V lim K = suR V lim K ∧ 0 < (sus V lim K).2.1 ∧ (sus V lim K).1 ≠ -1) := by
  intro K
  induction K with
  | zero => exact Or.inl ⟨rfl, rfl⟩
  | succ K ih =>
    simp only [sus, suR]
    have nn : (0 : Int) ≤ (low V lim K 144 : Nat) := by omega
    by_cases hE : isE V K = true
    · rcases ih with ⟨h1, h2⟩ | ⟨h1, h2, h3⟩
      · rw [h1]
        by_cases hp : 0 < low V lim K 144
        · rw [if_pos ⟨hE, Or.inl (by dsimp only; omega)⟩, if_pos ⟨hE, Or.inr (Or.inl (by omega))⟩]
          exact Or.inr ⟨rfl, by dsimp only; omega, by dsimp only; omega⟩
        · rw [if_neg (by rintro ⟨_, q | q⟩ <;> (dsimp only at q; omega))]
          refine Or.inl ⟨rfl, ?_⟩
          split
          · dsimp only; omega
          · exact h2
      · rw [← h1]
        by_cases hc : (sus V lim K).2.1 < low V lim K 144 ∨ (low V lim K 144 = (sus V lim K).2.1 ∧ (lwc V K 144 : Int) - low V lim K 144 < (sus V lim K).2.2)
        · rw [if_pos ⟨hE, by omega⟩, if_pos ⟨hE, Or.inr hc⟩]
          exact Or.inr ⟨rfl, by dsimp only; omega, by dsimp only; omega⟩
        · rw [if_neg (by rintro ⟨_, q⟩; omega), if_neg (by rintro ⟨_, q⟩; omega)]
          exact Or.inr ⟨rfl, h2, h3⟩
    · rw [if_neg (fun q => hE q.1), if_neg (fun q => hE q.1)]
      exact ih
theorem sus_low (V : Vw) (lim : Int) : ∀ K : Nat, 0 ≤ (sus V lim K).2.1 ∧ ∀ k : Nat, k < K → isE V k = true → (low V lim k 144 : Int) ≤ (sus V lim K).2.1 := by
  intro K
  induction K with
  | zero => exact ⟨Int.le_refl _, fun k h => by omega⟩
  | succ K ih =>
    simp only [sus]
    split
    · rename_i h
      refine ⟨by dsimp only; omega, fun k hk hE => ?_⟩
      by_cases e : k = K
      · subst e; exact Int.le_refl _
      · have := ih.2 k (by omega) hE
        dsimp only
        omega
    · rename_i h
      refine ⟨ih.1, fun k hk hE => ?_⟩
      by_cases e : k = K
      · subst e
        refine Int.not_lt.mp fun q => h ⟨hE, Or.inl q⟩
      · exact ih.2 k (by omega) hE
theorem ct_and_eq {p q : Int → Bool} : ∀ n : Nat, ct (fun k => p k && q k) n ≤ ct p n ∧ (ct (fun k => p k && q k) n = ct p n → ∀ k : Nat, k < n → p k = true → q k = true) := by
  intro n
  induction n with
  | zero => exact ⟨Nat.le_refl _, fun _ k h => by omega⟩
  | succ n ih =>
    simp only [ct]
    by_cases hp : p n = true
    · by_cases hq : q n = true
      · simp only [hp, hq, Bool.and_true, if_true]
        refine ⟨by omega, fun h k hk h1 => ?_⟩
        by_cases e : k = n
        · rw [e]; exact hq
        · exact ih.2 (by omega) k (by omega) h1
      · simp only [Bool.not_eq_true] at hq
        simp only [hp, hq, Bool.and_false, Bool.false_eq_true, if_false, if_true, Nat.add_zero]
        exact ⟨by omega, fun h => by omega⟩
    · simp only [Bool.not_eq_true] at hp
      simp only [hp, Bool.false_and, Bool.false_eq_true, if_false, Nat.add_zero]
      refine ⟨ih.1, fun h k hk h1 => ?_⟩
      by_cases e : k = n
      · rw [e, hp] at h1; exact absurd h1 (by decide)
      · exact ih.2 h k (by omega) h1
theorem low_none {V : Vw} {lim : Int} (h : ncl V lim 144 = nL V) (j : Int) : low V lim j 144 = 0 := by
  have hc := (ct_and_eq (p := isL V) (q := clo V lim) 144).2 h
  refine ct_nil fun i h0 h1 => ?_
  have := hc i.toNat (by omega)
  rw [Int.toNat_of_nonneg h0] at this
  cases hi : isL V i
  · rfl
  · rw [this hi]; simp
theorem low_some {V : Vw} {lim : Int} (hG : Good V) (h : ncl V lim 144 ≠ nL V) : ∃ k : Nat, k < 144 ∧ isE V k = true ∧ 0 < low V lim k 144 := by
  refine Classical.byContradiction fun hno => h ?_
  have key : ∀ n : Nat, n ≤ 144 → ncl V lim n = lk V n := by
    intro n
    induction n with
    | zero => intro _; rfl
    | succ n ih =>
      intro hn
      rw [lk_succ, ← ih (by omega)]
      show ncl V lim n + (if (isL V n && clo V lim n) = true then 1 else 0) = _
      by_cases hL : isL V n = true
      · rw [if_pos hL]
        by_cases hc : clo V lim n = true
        · rw [hL, hc]; rfl
        · exfalso
          refine hno ⟨n, by omega, (isL_E hL).1, ?_⟩
          refine ct_pos (x := (n : Int)) (by omega) (by omega) ?_
          have hin : inL V n n = true := by
            unfold inL
            rcases cE_01 hG hL n (lD V n + 1) (Nat.le_refl _) with q | q
            · exact absurd rfl (q.2 0 (by omega))
            · exact decide_eq_true q.1
          simp only [Bool.not_eq_true] at hc
          rw [hL, hin, hc]; rfl
      · simp only [Bool.not_eq_true] at hL
        rw [hL]; rfl
  exact key 144 (Nat.le_refl _)
theorem cM_vals {V : Vw} (hG : Good V) {k : Int} (hE : isE V k = true) (b : Int) : cM V k b (lD V k + 1) = 0 ∨ cM V k b (lD V k + 1) = 1 := by
  rcases cM_01 hG hE b (lD V k + 1) (Nat.le_refl _) with h | h
  · exact Or.inl h.1
  · exact Or.inr h.1
section Law92
variable {e : Nat} {I J : IM} {Q : Post} {V : Vw} {H : Hw} {a b v s w l x : Int}
theorem sp_X10_joinedWithBench (he : e ∈ stLs) (hG : Good V) (hGH : GoodH (vm V) H) (hH : Rht I 8 H) (hW : Rwl I 5 V) (hg : Gw I V) (ha : 0 ≤ a ∧ a < vm V) (hQ : Q (.inl (some (.int (i32 (if jbn V H a (vm V) = true then 1 else 0))))) (ME e I J)) : SX10_joinedWithBench [.ref 0, .int (i32 a)] (ME e I J) Q := by
  refine x_in (Nat.le_of_ble_eq_true rfl) ?_
  dsimp only [bX10_joinedWithBench, bX10_joinedWithBench_0]
  have m := hG.1
  have T := fd_TI hG
  ((try rw [show (0 : Int32) = i32 (0) from rfl]); (try simp only [i32_add, i32_sub, i32_mul, i32_neg]))
  refine x_for (vm V) (fun i av μ => av = [.ref 0, .int (i32 a), .int (i32 i)] ∧ μ = ME e I J ∧ jbn V H a i = false) ?_ ?_ (Nat.zero_le _) ⟨rfl, rfl, rfl⟩
  · rintro k av μ hk ⟨rfl, rfl, hj⟩ hJ
    dsimp only [bX10_joinedWithBench, bX10_joinedWithBench_1]
    ((try rw [show (0 : Int32) = i32 (0) from rfl]); (try rw [show (1 : Int32) = i32 (1) from rfl]); (try simp only [i32_add, i32_sub, i32_mul, i32_neg]))
    have gb := (hGH k (by omega) (by omega)).1
    have hs : jbn V H a (k + 1) = (jbn V H a k || (decide (hb H k = 1) && decide (fP (forest V) a = fP (forest V) k))) := rfl
    rw [hj, Bool.false_or] at hs
    refine x_gR rfl rfl (x_gI rfl ?_)
    rw [show I 5 ((0 : Nat) : Int) = ((vm V : Nat) : Int) from hW.1]
    refine x_le (by omega) (by omega) (fun h => by omega) (fun _ => ?_)
    refine x_gR rfl rfl (x_obs st8 (x_cI (sp_X6_isBench he st8 hGH hH (by omega) (x_eq (by omega) (by omega) (fun h => ?_) (fun h => ?_)))))
    · rw [decide_eq_false (by omega), Bool.false_and] at hs
      exact hJ _ _ ⟨by simp only [Int.cast_ofNat_Int, Int.natCast_add, Int.toNat_natCast, i32_add, i32_sub, i32_mul, i32_neg, i32_lit, i64_add, i64_sub, i64_mul, i64_neg, i64_lit, i64_int], rfl, hs⟩
    · rw [decide_eq_true (show hb H k = 1 by omega), Bool.true_and] at hs
      refine x_gR rfl rfl (x_ob rfl (x_cI (sp_X1_joined ⟨ha.1, by omega⟩ ⟨by omega, by omega⟩ (fun x hx => by rw [hg.1.1 x hx]; exact (T.1 x hx).2.2) ?_)))
      rw [hg.1.1 a ⟨ha.1, by omega⟩, hg.1.1 k ⟨by omega, by omega⟩]
      by_cases hp : fP (forest V) a = fP (forest V) k
      · rw [if_pos hp]
        rw [decide_eq_true hp] at hs
        rw [if_pos (jbn_keep (K := k + 1) (by omega) hs)] at hQ
        exact x_eq (by omega) (by omega) (fun h => by omega) (fun _ => x_rZ (v := 1) (by omega) hQ)
      · rw [if_neg hp]
        rw [decide_eq_false hp] at hs
        exact x_brr (by trivial) (hJ _ _ ⟨by simp only [Int.cast_ofNat_Int, Int.natCast_add, Int.toNat_natCast, i32_add, i32_sub, i32_mul, i32_neg, i32_lit, i64_add, i64_sub, i64_mul, i64_neg, i64_lit, i64_int], rfl, hs⟩)
  · rintro av μ ⟨rfl, rfl, hj⟩
    dsimp only [bX10_joinedWithBench, bX10_joinedWithBench_1]
    ((try rw [show (0 : Int32) = i32 (0) from rfl]); (try simp only [i32_add, i32_sub, i32_mul, i32_neg]))
    rw [hj] at hQ
    refine x_gR rfl rfl (x_gI rfl ?_)
    rw [show I 5 ((0 : Nat) : Int) = ((vm V : Nat) : Int) from hW.1]
    exact x_le (by omega) (by omega) (fun _ => x_rZ (v := 0) (by omega) hQ) (fun h => by omega)
theorem cq_whyNone (h : Cn I V H) (he : e ∈ stLs) (ha : IR a) : Cq SX10_whyNone [.ref 0, .int (i32 a)] e I J (an_why V H a) := by
  intro Q hQ
  obtain ⟨hG, hGH, hB, hR, hH, hW, hd⟩ := h
  have m := hG.1
  have n := hG.2.1
  refine x_in (Nat.le_of_ble_eq_true rfl) ?_
  dsimp only [bX10_whyNone, bX10_whyNone_0]
  ((try rw [show (0 : Int32) = i32 (0) from rfl]); (try rw [show (1 : Int32) = i32 (1) from rfl]); (try rw [show (2 : Int32) = i32 (2) from rfl]); (try rw [show (3 : Int32) = i32 (3) from rfl]); (try simp only [i32_add, i32_sub, i32_mul, i32_neg]))
  unfold an_why at hQ
  refine x_ob rfl (x_cV (sp_X10_needMark hG.1 hW ha (fun h1 h2 => ?_) (fun h1 => ?_)))
  rotate_left
  · have hq := hQ I e (Cf.refl hd) he
    rw [if_neg (by omega)] at hq; exact hq
  rw [if_pos ⟨h1, h2⟩] at hQ
  refine x_gR rfl rfl (x_ob rfl (x_cV (sp_X10_survey st8 hG hR hW hd fun I1 f1 M1 G1 L1 => ?_)))
  have hq := hQ I1 8 f1.cf st8
  have R1 := f1.st (by omega) hR
  have H1 := f1.ht (by omega) hH
  have W1 := f1.wl hW
  have c1 := ct_le (isAt V a 1) (vn V)
  have c0 := ct_le (isAt V a 0) (vn V)
  refine x_ob rfl (x_cI (sp_X10_joinedWithBench st8 hG hGH H1 W1 G1 ⟨h1, h2⟩ ?_))
  dsimp only
  by_cases hj : jbn V H a (vm V) = true
  · rw [if_pos hj] at hq ⊢
    exact x_eq (by omega) (by omega) (fun h => by omega) (fun _ => x_rI hq)
  · rw [if_neg hj] at hq ⊢
    unfold whyA at hq
    refine x_brr (by trivial) (x_gR rfl rfl (x_obs st8 (x_cI (sp_X6_sightsAt st8 st8 hG R1 (by omega) (by omega) ?_))))
    refine x_eq (by omega) (by omega) (fun h => ?_) (fun h => ?_)
    · rw [if_pos (by omega)] at hq; exact x_rI hq
    · rw [if_neg (by omega)] at hq
      refine x_gR rfl rfl (x_obs st8 (x_cI (sp_X6_sightsAt st8 st8 hG R1 (by omega) (by omega) ?_)))
      refine x_eq (by omega) (by omega) (fun h => ?_) (fun h => ?_)
      · rw [if_pos (by omega)] at hq; exact x_rI hq
      · rw [if_neg (by omega)] at hq; exact x_rI hq
theorem rq_whyNone (h : Rn I V H) (ha : IR a) : Rqa SX11_whyNone [.ref 200, .int (i32 a)] e I J (an_why V H a) c1 := by
  intro Q hQ
  obtain ⟨hG, hGH, hB, hW, hH⟩ := h
  have m := hG.1
  have n := hG.2.1
  refine x_in (Nat.le_of_ble_eq_true rfl) ?_
  dsimp only [bX11_whyNone, bX11_whyNone_0]
  ((try rw [show (0 : Int32) = i32 (0) from rfl]); (try simp only [i32_add, i32_sub, i32_mul, i32_neg]))
  unfold an_why at hQ
  refine x_ob rfl (x_cI (sp_X11_isMark hG hW ha (x_ob rfl (x_cI (sp_X11_is (by split <;> simp) ?_)))))
  dsimp only
  by_cases h1 : 0 ≤ a ∧ a ≤ (vm V : Int) - 1
  · rw [if_pos h1]
    rw [if_pos (by omega)] at hQ
    refine x_eq (by omega) (by omega) (fun h => by omega) (fun _ => ?_)
    refine x_ob rfl (x_cV (sp_X11_reckons hG (Rfr.told.rw' hW) fun I2 f2 f2b R2 => ?_))
    have r2 := rkf0 f2 f2b
    have r3 := Rfr.told.trans r2.1
    have W2 := r3.rw' hW
    have H2 := r3.rh hH
    have hq := fun y hy => hQ I2 y r3 ⟨hy, by rw [r2.2]; exact up_self⟩
    have gp := gro_P hG (Nat.le_refl (nE V))
    rw [show gro V (nE V) = forest V from rfl] at gp
    dsimp only
    refine x_for (vm V) (fun i av μ => av = [.ref 200, .int (i32 a), .int (i32 i)] ∧ μ = ME e I2 J ∧ jbn V H a i = false) ?_ ?_ (Nat.zero_le _) ⟨rfl, rfl, rfl⟩
    · rintro k av μ hk ⟨rfl, rfl, hj⟩ hJ
      dsimp only [bX11_whyNone, bX11_whyNone_1]
      ((try rw [show (0 : Int32) = i32 (0) from rfl]); (try rw [show (1 : Int32) = i32 (1) from rfl]); (try simp only [i32_add, i32_sub, i32_mul, i32_neg]))
      have gb := (hGH k (by omega) (by omega)).1
      have hs : jbn V H a (k + 1) = (jbn V H a k || (decide (hb H k = 1) && decide (fP (forest V) a = fP (forest V) k))) := rfl
      rw [hj, Bool.false_or] at hs
      have pa := gp a h1.1 (by omega)
      have pk := gp k (by omega) (by omega)
      refine x_ob rfl (x_cI (sp_X11_marks W2 (x_le (by omega) (by omega) (fun h => by omega) (fun _ => ?_))))
      refine x_ob rfl (x_cI (sp_X11_isBench m hGH H2 (by omega) (x_eq (by omega) (by omega) (fun h => ?_) (fun h => ?_))))
      · rw [decide_eq_false (by omega), Bool.false_and] at hs
        exact hJ _ _ ⟨by simp only [Int.cast_ofNat_Int, Int.natCast_add, Int.toNat_natCast, i32_add, i32_sub, i32_mul, i32_neg, i32_lit, i64_add, i64_sub, i64_mul, i64_neg, i64_lit, i64_int], rfl, hs⟩
      · rw [decide_eq_true (show hb H k = 1 by omega), Bool.true_and] at hs
        refine x_gR rfl rfl (x_aI rfl (by omega) (by omega) (by omega) (x_gR rfl rfl (x_aI rfl h1.1 (by omega) (by omega) ?_)))
        rw [R2.2.2 k (by omega) (by omega), R2.2.2 a h1.1 (by omega)]
        refine x_eq (by omega) (by omega) (fun hp => ?_) (fun hp => ?_)
        · rw [decide_eq_true hp.symm] at hs
          exact x_rI (hq _ (by rw [if_pos (jbn_keep (K := k + 1) (by omega) hs)]))
        · rw [decide_eq_false (fun q => hp q.symm)] at hs
          exact hJ _ _ ⟨by simp only [Int.cast_ofNat_Int, Int.natCast_add, Int.toNat_natCast, i32_add, i32_sub, i32_mul, i32_neg, i32_lit, i64_add, i64_sub, i64_mul, i64_neg, i64_lit, i64_int], rfl, hs⟩
    · rintro av μ ⟨rfl, rfl, hj⟩
      dsimp only [bX11_whyNone, bX11_whyNone_1]
      ((try rw [show (0 : Int32) = i32 (0) from rfl]); (try rw [show (1 : Int32) = i32 (1) from rfl]); (try simp only [i32_add, i32_sub, i32_mul, i32_neg]))
      rw [hj] at hq
      have two : fx bX11_whyNone 2 [.ref 200, .int (i32 a), .int (i32 1), .int (i32 0)] (ME e I2 J) Q := by
        refine x_for (vn V) (fun i av μ => av = [.ref 200, .int (i32 a), .int (i32 (whyA V a i)), .int (i32 i)] ∧ μ = ME e I2 J) ?_ ?_ (Nat.zero_le _) ⟨rfl, rfl⟩
        · rintro k av μ hk ⟨rfl, rfl⟩ hJ
          dsimp only [bX11_whyNone, bX11_whyNone_2]
          ((try rw [show (0 : Int32) = i32 (0) from rfl]); (try rw [show (1 : Int32) = i32 (1) from rfl]); (try rw [show (2 : Int32) = i32 (2) from rfl]); (try rw [show (3 : Int32) = i32 (3) from rfl]); (try simp only [i32_add, i32_sub, i32_mul, i32_neg]))
          have s1 : ct (isAt V a 1) (k + 1) = ct (isAt V a 1) k + (if isAt V a 1 k = true then 1 else 0) := rfl
          have s0 : ct (isAt V a 0) (k + 1) = ct (isAt V a 0) k + (if isAt V a 0 k = true then 1 else 0) := rfl
          have cc := ct_01 (V := V) (a := a) k
          have wr : 1 ≤ whyA V a k ∧ whyA V a k ≤ 3 := by unfold whyA; split <;> (try split) <;> omega
          refine x_ob rfl (x_cI (sp_X11_sights W2 (x_le (by omega) (by omega) (fun h => by omega) (fun _ => ?_))))
          refine x_ob rfl (x_cI (sp_X11_isSightOf hG W2 (by omega) (by omega) (by omega) ?_))
          by_cases hat : vG V 0 k = a ∨ vG V 1 k = a
          · rw [if_pos hat]
            rw [if_pos (isAt_iff.mpr ⟨hat, Or.inl (by decide)⟩)] at s1
            refine x_eq (by omega) (by omega) (fun h => by omega) (fun _ => ?_)
            refine x_eq (by omega) (by omega) (fun h3 => ?_) (fun h3 => ?_)
            · refine hJ _ _ ⟨?_, rfl⟩
              have : whyA V a (k + 1) = 3 := by
                unfold whyA at h3 ⊢
                split at h3
                · omega
                · split at h3
                  · omega
                  · rw [if_neg (by omega), if_neg (by omega)]
              rw [this]; simp only [Int.cast_ofNat_Int, Int.natCast_add, Int.toNat_natCast, i32_add, i32_sub, i32_mul, i32_neg, i32_lit, i64_add, i64_sub, i64_mul, i64_neg, i64_lit, i64_int]
            · have z0 : ct (isAt V a 0) k = 0 := by
                refine Nat.eq_zero_of_not_pos fun q => h3 ?_
                unfold whyA
                rw [if_neg (by omega), if_neg (by omega)]
              refine x_ob rfl (x_cI (sp_X11_counts hG W2 (by omega) (by omega) ?_))
              by_cases h5 : vG V 5 k = 0
              · rw [if_pos h5]
                rw [if_pos (isAt_iff.mpr ⟨hat, Or.inr h5⟩)] at s0
                refine x_eq (by omega) (by omega) (fun h => by omega) (fun _ => hJ _ _ ⟨?_, rfl⟩)
                have : whyA V a (k + 1) = 3 := by unfold whyA; rw [if_neg (by omega), if_neg (by omega)]
                rw [this]; simp only [Int.cast_ofNat_Int, Int.natCast_add, Int.toNat_natCast, i32_add, i32_sub, i32_mul, i32_neg, i32_lit, i64_add, i64_sub, i64_mul, i64_neg, i64_lit, i64_int]
              · rw [if_neg h5]
                rw [if_neg (fun q => h5 ((isAt_iff.mp q).2.resolve_left (fun z => z rfl)))] at s0
                refine x_brr (by trivial) (hJ _ _ ⟨?_, rfl⟩)
                have : whyA V a (k + 1) = 2 := by unfold whyA; rw [if_neg (by omega), if_pos (by omega)]
                rw [this]; simp only [Int.cast_ofNat_Int, Int.natCast_add, Int.toNat_natCast, i32_add, i32_sub, i32_mul, i32_neg, i32_lit, i64_add, i64_sub, i64_mul, i64_neg, i64_lit, i64_int]
          · rw [if_neg hat]
            rw [if_neg (fun q => hat (isAt_iff.mp q).1)] at s1 s0
            refine x_brr (by trivial) (hJ _ _ ⟨?_, rfl⟩)
            have : whyA V a (k + 1) = whyA V a k := by unfold whyA; rw [s1, s0]; rfl
            rw [this]; simp only [Int.cast_ofNat_Int, Int.natCast_add, Int.toNat_natCast, i32_add, i32_sub, i32_mul, i32_neg, i32_lit, i64_add, i64_sub, i64_mul, i64_neg, i64_lit, i64_int]
        · rintro av μ ⟨rfl, rfl⟩
          dsimp only [bX11_whyNone, bX11_whyNone_2]
          exact x_ob rfl (x_cI (sp_X11_sights W2 (x_le (by omega) (by omega) (fun _ => x_rI (hq _ rfl)) (fun h => by omega))))
      exact x_ob rfl (x_cI (sp_X11_marks W2 (x_le (by omega) (by omega) (fun _ => two) (fun h => by omega))))
  · rw [if_neg h1]
    rw [if_neg (by omega)] at hQ
    exact x_brr (by trivial) (x_rI (hQ _ 0 Rfr.told up_self))
theorem sp_X11_isLoop (hG : Good V) (hW : Rrw I 201 0 V) (hl : IR l)
    (hQ : ∀ I' : IM, (∀ q, q < 207 ∨ 212 < q → q ≠ 200 → I' q = I q) → (∀ k, k ≠ 10 → I' 200 k = I 200 k) → Rk I' V → Q (.inl (some (.int (i32 (if 0 ≤ l ∧ l ≤ (nL V : Int) - 1 then 1 else 0))))) (ME e I' J)) : SX11_isLoop [.ref 200, .int (i32 l)] (ME e I J) Q := by
  refine x_in (Nat.le_of_ble_eq_true rfl) ?_
  dsimp only [bX11_isLoop, bX11_isLoop_0]
  ((try rw [show (1 : Int32) = i32 (1) from rfl]); (try simp only [i32_add, i32_sub, i32_mul, i32_neg]))
  have n := nL40 hG
  refine x_ob rfl (x_cV (sp_X11_reckons hG hW fun I1 f1 f1b R1 => ?_))
  refine x_ob rfl (x_cI (sp_X11_loops hG R1 ?_))
  dsimp only
  rw [i32_sub, i32_long hl.1 hl.2, i32_long (by omega) (by omega), show (0 : Int64) = i64 0 from rfl]
  unfold IR at hl
  exact x_cI (sp_X11_isIn (by omega) (by omega) (by omega) (x_rZ (by split <;> simp) (hQ I1 f1 f1b R1)))
theorem sp_X11_edgesOfLoop (hG : Good V) (hW : Rrw I 201 0 V) (hR : Rk I V) {k : Nat} (hk : k < 144) (hL : isL V k = true)
    (hQ : ∀ I' : IM, Wf I I' → Q (.inl (some (.int (i32 ((lD V k : Int) + 1))))) (ME e I' J)) : SX11_edgesOfLoop [.ref 200, .int (i32 (lk V k))] (ME e I J) Q := by
  refine x_in (Nat.le_of_ble_eq_true rfl) ?_
  dsimp only [bX11_edgesOfLoop, bX11_edgesOfLoop_0]
  have D := lD_ok hG (isL_E hL).1
  refine x_ob rfl (x_cV (sp_X11_goesLoop hG hW hR hk hL fun I3 f3 y3 => x_gI rfl ?_))
  rw [show I3 200 ((17 : Nat) : Int) = (lD V k : Int) + 1 by rw [D.1]; exact y3.1]
  exact x_rI (hQ I3 f3)
theorem rq_loop (h : Rn I V H) (hl : IR l) (hw : IR w) : Rqa SX11_loop [.ref 200, .int (i32 l), .int (i32 w)] e I J (an_loop V l w) c12 := by
  intro Q hQ
  obtain ⟨hG, hGH, hB, hW, hH⟩ := h
  have m := hG.1
  refine x_in (Nat.le_of_ble_eq_true rfl) ?_
  dsimp only [bX11_loop, bX11_loop_0]
  ((try rw [show (0 : Int32) = i32 (0) from rfl]); (try rw [show (2 : Int32) = i32 (2) from rfl]); (try rw [show (1 : Int32) = i32 (1) from rfl]); (try rw [show (12 : Int32) = i32 (12) from rfl]); (try simp only [i32_add, i32_sub, i32_mul, i32_neg]))
  unfold an_loop at hQ
  refine x_ob rfl (x_cI (sp_X11_isLoop hG hW hl fun I1 f1 f1b R1 => x_ob rfl (x_cI (sp_X11_is (by split <;> simp) ?_))))
  have r1 := (rkf0 f1 f1b).1
  dsimp only
  by_cases h1 : 0 ≤ l ∧ l ≤ (nL V : Int) - 1
  · rw [if_pos h1]
    rw [if_pos (by omega)] at hQ
    refine x_eq (by omega) (by omega) (fun h => by omega) (fun _ => ?_)
    rw [i32_long hw.1 hw.2, show (0 : Int64) = i64 0 from rfl, show (5 : Int64) = i64 5 from rfl]
    unfold IR at hw
    refine x_cI (sp_X11_isIn (by omega) (by omega) (by omega) (x_ob rfl (x_cI (sp_X11_may (by split <;> simp) ?_))))
    dsimp only
    by_cases h2 : 0 ≤ w ∧ w ≤ 5
    · rw [if_pos h2]
      rw [if_pos (by omega)] at hQ
      refine x_eq (by omega) (by omega) (fun h => by omega) (fun _ => ?_)
      have r2 : Rfr I (up (up I1 200 0 (1 - 1)) 200 0 (if (1 : Int) = 0 then 2 else 0)) := r1.trans (Rfr.told.trans Rfr.told)
      have t2 : up (up I1 200 0 (1 - 1)) 200 0 (if (1 : Int) = 0 then 2 else 0) 200 0 = 0 := up_self
      have R2 : Rk (up (up I1 200 0 (1 - 1)) 200 0 (if (1 : Int) = 0 then 2 else 0)) V := by
        refine ⟨R1.1.keep ?_ ?_ ?_ ?_, ?_, ?_⟩
        · rw [up_k (by omega), up_k (by omega)]
        · rw [up_qf (by omega), up_qf (by omega)]
        · rw [up_qf (by omega), up_qf (by omega)]
        · rw [up_qf (by omega), up_qf (by omega)]
        · rw [up_qf (by omega), up_qf (by omega)]; exact R1.2.1
        · rw [up_qf (by omega), up_qf (by omega)]; exact R1.2.2
      generalize up (up I1 200 0 (1 - 1)) 200 0 (if (1 : Int) = 0 then 2 else 0) = I2 at *
      have W2 := r2.rw' hW
      obtain ⟨k1, k2, k3⟩ := lke_ok (V := V) h1.1 (by omega)
      generalize lke V l = k at *
      have hE := (isL_E k2).1
      have D := lD_ok hG hE
      have hq := fun I3 (f3 : Wf I2 I3) y hy => hQ I3 y (r2.trans f3.rfr) ⟨hy, by rw [f3.rf0.2]; exact t2⟩
      rw [← k3]
      refine x_sw hw (by omega) (fun j hj haj => ?_) (fun h => ?_)
      · obtain rfl : w = (j : Int) := by omega
        rcases (show j = 0 ∨ j = 1 ∨ j = 2 ∨ j = 3 ∨ j = 4 by omega) with rfl | rfl | rfl | rfl | rfl
        · refine x_ob rfl (x_cI (sp_X11_loopEdge hG R2 k1 k2 (x_nz (by omega) (by omega) (by omega) ?_)))
          rw [i32_div (by omega) (by omega) (by omega) (by omega), Int.tdiv_eq_ediv_of_nonneg (by omega)]
          exact x_rI (hq I2 (Wf.refl I2) _ rfl)
        · refine x_ob rfl (x_cI (sp_X11_loopEdge hG R2 k1 k2 (x_nz (by omega) (by omega) (by omega) ?_)))
          rw [i32_div (by omega) (by omega) (by omega) (by omega), Int.tdiv_eq_ediv_of_nonneg (by omega), i32_mul, i32_sub, show (k : Int) - (k : Int) / 12 * 12 = (k : Int) % 12 by omega]
          exact x_rI (hq I2 (Wf.refl I2) _ rfl)
        · exact x_ob rfl (x_cI (sp_X11_edgesOfLoop hG W2 R2 k1 k2 fun I3 f3 => x_rI (hq I3 f3 _ rfl)))
        · exact x_ob rfl (x_cI (sp_X11_wayOf hG W2 R2 k1 k2 fun I3 f3 => x_rI (hq I3 f3 _ rfl)))
        · exact x_ob rfl (x_cI (sp_X11_misclosure hG W2 R2 k1 k2 fun I3 f3 => x_rI (hq I3 f3 _ rfl)))
      · obtain rfl : w = 5 := by omega
        refine x_ob rfl (x_cI (sp_X11_closes hG W2 R2 k1 k2 fun I3 f3 => ?_))
        have hq := hq I3 f3 (if clo V (vS V 3) k = true then 1 else 0) rfl
        by_cases hc : clo V (vS V 3) k = true
        · rw [if_pos hc] at hq ⊢
          exact x_eq (by omega) (by omega) (fun h => by omega) (fun _ => x_rI hq)
        · rw [if_neg hc] at hq ⊢
          exact x_brr (by trivial) (x_rI hq)
    · rw [if_neg h2]
      rw [if_neg (by omega)] at hQ
      exact x_brr (by trivial) (x_rI (hQ _ 0 (r1.trans (Rfr.told.trans Rfr.told)) up_self))
  · rw [if_neg h1]
    rw [if_neg (by omega)] at hQ
    exact x_brr (by trivial) (x_rI (hQ _ 0 (r1.trans Rfr.told) up_self))
theorem Rk.told {c : Int} (h : Rk I V) : Rk (up I 200 0 c) V := by
  refine ⟨h.1.keep ?_ ?_ ?_ ?_, ?_, ?_⟩
  · rw [up_k (by omega)]
  · rw [up_qf (by omega)]
  · rw [up_qf (by omega)]
  · rw [up_qf (by omega)]
  · rw [up_qf (by omega)]; exact h.2.1
  · rw [up_qf (by omega)]; exact h.2.2
theorem rq_loopMark (h : Rn I V H) (hl : IR l) (hw : IR w) : Rqa SX11_loopMark [.ref 200, .int (i32 l), .int (i32 w)] e I J (an_lm V l w) c1 := by
  intro Q hQ
  obtain ⟨hG, hGH, hB, hW, hH⟩ := h
  have m := hG.1
  refine x_in (Nat.le_of_ble_eq_true rfl) ?_
  dsimp only [bX11_loopMark, bX11_loopMark_0]
  ((try rw [show (0 : Int32) = i32 (0) from rfl]); (try rw [show (1 : Int32) = i32 (1) from rfl]); (try rw [show (12 : Int32) = i32 (12) from rfl]); (try rw [show (-1 : Int32) = i32 (-1) from rfl]); (try simp only [i32_add, i32_sub, i32_mul, i32_neg]))
  unfold an_lm at hQ
  refine x_ob rfl (x_cI (sp_X11_isLoop hG hW hl fun I1 f1 f1b R1 => x_ob rfl (x_cI (sp_X11_is (by split <;> simp) ?_))))
  have r1 := (rkf0 f1 f1b).1
  dsimp only
  by_cases h1 : 0 ≤ l ∧ l ≤ (nL V : Int) - 1
  · rw [if_pos h1]
    rw [if_pos (by omega)] at hQ
    refine x_eq (by omega) (by omega) (fun h => by omega) (fun _ => ?_)
    have R2 : Rk (up I1 200 0 (1 - 1)) V := R1.told
    have r2 := r1.trans (Rfr.told (I := I1) (v := 1 - 1))
    have W2 := r2.rw' hW
    obtain ⟨k1, k2, k3⟩ := lke_ok (V := V) h1.1 (by omega)
    generalize lke V l = k at *
    have hE := (isL_E k2).1
    have D := lD_ok hG hE
    rw [← k3]
    refine x_ob rfl (x_cV (sp_X11_goesLoop hG W2 R2 k1 k2 fun I3 f3 y3 => x_gI rfl ?_))
    have hq := fun y hy => hQ I3 y (r2.trans f3.rfr) ⟨hy, by rw [f3.rf0.2]; exact up_self⟩
    rw [show I3 200 ((17 : Nat) : Int) = (lD V k : Int) + 1 by rw [D.1]; exact y3.1, i32_sub, i32_long hw.1 hw.2, i32_long (by omega) (by omega), show (0 : Int64) = i64 0 from rfl]
    unfold IR at hw
    refine x_cI (sp_X11_isIn (by omega) (by omega) (by omega) ?_)
    by_cases h2 : 0 ≤ w ∧ w ≤ (lD V k : Int) + 1 - 1
    · rw [if_pos h2]
      rw [if_pos (by omega)] at hq
      refine x_eq (by omega) (by omega) (fun h => by omega) (fun _ => ?_)
      refine x_eq (by omega) (by omega) (fun h => ?_) (fun h => ?_)
      · subst h
        refine x_ob rfl (x_cI (sp_X11_loopEdge hG (f3.rk R2) k1 k2 (x_nz (by omega) (by omega) (by omega) ?_)))
        rw [i32_div (by omega) (by omega) (by omega) (by omega), Int.tdiv_eq_ediv_of_nonneg (by omega)]
        exact x_rI (hq _ rfl)
      · obtain ⟨j, rfl⟩ : ∃ j : Nat, w = (j : Int) + 1 := ⟨(w - 1).toNat, by omega⟩
        refine x_gR rfl rfl (x_aI rfl (by omega) (by omega) (by omega) ?_)
        rw [show (j : Int) + 1 - 1 = j by omega, y3.2 j (by omega)]
        refine x_rI (hq _ ?_)
        rw [show ((j : Int) + 1).toNat = j + 1 by omega]
        rfl
    · rw [if_neg h2]
      rw [if_neg (by omega)] at hq
      exact x_brr (by trivial) (x_rI (hq _ rfl))
  · rw [if_neg h1]
    rw [if_neg (by omega)] at hQ
    exact x_brr (by trivial) (x_rI (hQ _ 0 (r1.trans Rfr.told) up_self))
end Law92
