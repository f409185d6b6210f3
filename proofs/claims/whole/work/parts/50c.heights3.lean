/-! ===== heights: levels ===== -/
/-- a mark that is to be laid, from one that has a height -/
def lvc (V : Vw) (H : Hw) (j : Int) : Bool := decide (hh H (j / 12) = 0) && decide (hh H (j % 12) = 1) && isE V (pq (j % 12) (j / 12))
def lco (V : Vw) (c : Int → Int) (j : Int) : Int := c (j % 12) + dst V (j % 12) (j / 12)
/-- the best so far: to, from, cost -/
def lvs (V : Vw) (H : Hw) (c : Int → Int) : Nat → Int × Int × Int
  | 0 => (-1, -1, 0)
  | j + 1 => if lvc V H j = true ∧ ((lvs V H c j).1 = -1 ∨ lco V c j < (lvs V H c j).2.2) then ((j : Int) / 12, (j : Int) % 12, lco V c j) else lvs V H c j
def lvn (V : Vw) (S : Hw × (Int → Int)) : Hw × (Int → Int) :=
  if (lvs V S.1 S.2 144).1 = -1 then S else
  (putH S.1 (lvs V S.1 S.2 144).1 (hv S.1 (lvs V S.1 S.2 144).2.1 + rfk V (pq (lvs V S.1 S.2 144).2.1 (lvs V S.1 S.2 144).1) (lvs V S.1 S.2 144).2.1),
   fun k => if k = (lvs V S.1 S.2 144).1 then (lvs V S.1 S.2 144).2.2 else S.2 k)
def lvo (V : Vw) (S : Hw × (Int → Int)) : Nat → Hw × (Int → Int)
  | 0 => S
  | n + 1 => lvn V (lvo V S n)
/-- heights behind a levelling: the benches', and what they lay -/
def lv0 (H : Hw) : Hw := (H.1, H.1, H.2.2)
def lvl (V : Vw) (H : Hw) : Hw := (lvo V (lv0 H, fun _ => 0) 12).1
theorem lvc_iff {V : Vw} {H : Hw} {j : Int} : lvc V H j = true ↔ hh H (j / 12) = 0 ∧ hh H (j % 12) = 1 ∧ isE V (pq (j % 12) (j / 12)) = true := by
  unfold lvc; simp [and_assoc]
theorem lvs_flat {V : Vw} {H : Hw} {c : Int → Int} {K K' : Nat} (h : K ≤ K') (hn : ∀ j : Nat, K ≤ j → j < K' → lvc V H j = false) : lvs V H c K' = lvs V H c K := by
  obtain ⟨d, rfl⟩ : ∃ d, K' = K + d := ⟨K' - K, by omega⟩
  induction d with
  | zero => rfl
  | succ d ih =>
    rw [show K + (d + 1) = (K + d) + 1 by omega]
    simp only [lvs]
    rw [if_neg (fun q => by rw [hn (K + d) (by omega) (by omega)] at q; exact absurd q.1 (by decide)), ih (by omega) (fun j h1 h2 => hn j h1 (by omega))]
/-- costs within a bound -/
def CB (H : Hw) (c : Int → Int) (C : Int) : Prop := ∀ k : Int, 0 ≤ k → k < 12 → hh H k = 1 → 0 ≤ c k ∧ c k ≤ C
theorem lvc_rg {V : Vw} {H : Hw} (hG : Good V) {j : Int} (h0 : 0 ≤ j) (h1 : j < 144) (h : lvc V H j = true) : j / 12 < vm V ∧ j % 12 < vm V ∧ j / 12 ≠ j % 12 := by
  have q := lvc_iff.mp h
  have hne : j / 12 ≠ j % 12 := fun e => by rw [e] at q; omega
  have hm := hG.1
  have c := gd_E hG (isE_iff.mp q.2.2)
  rcases Int.lt_or_gt_of_ne hne with x | x
  · have := pq_gt x (by omega) (by omega : j % 12 < 12); omega
  · have := pq_lt x (by omega) (by omega : j / 12 < 12); omega
theorem lvs_ok {V : Vw} {H : Hw} {c : Int → Int} {C : Int} (hG : Good V) (hC : CB H c C) : ∀ j : Nat, j ≤ 144 → lvs V H c j = (-1, -1, 0) ∨ (0 ≤ (lvs V H c j).1 ∧ (lvs V H c j).1 < vm V ∧ 0 ≤ (lvs V H c j).2.1 ∧ (lvs V H c j).2.1 < vm V ∧ (lvs V H c j).1 ≠ (lvs V H c j).2.1 ∧ hh H (lvs V H c j).1 = 0 ∧ hh H (lvs V H c j).2.1 = 1 ∧ isE V (pq (lvs V H c j).2.1 (lvs V H c j).1) = true ∧ 0 ≤ (lvs V H c j).2.2 ∧ (lvs V H c j).2.2 ≤ C + 99999) := by
  intro j
  induction j with
  | zero => intro _; exact Or.inl rfl
  | succ j ih =>
    intro hj
    simp only [lvs]
    split
    · rename_i hc
      have q := lvc_iff.mp hc.1
      have r := lvc_rg hG (by omega) (by omega) hc.1
      have x := hC ((j : Int) % 12) (by omega) (by omega) q.2.1
      have y := gd_dst hG (a := (j : Int) % 12) (b := (j : Int) / 12) (by omega) (by omega)
      refine Or.inr ?_
      dsimp only
      refine ⟨by omega, r.1, by omega, r.2.1, r.2.2, q.1, q.2.1, q.2.2, ?_⟩
      unfold lco; omega
    · exact ih (by omega)
theorem lvn_ok {V : Vw} {H : Hw} {c : Int → Int} {C M : Int} (hG : Good V) (hGH : GoodH (vm V) H) (hB : HB (vm V) H M) (hC : CB H c C) : GoodH (vm V) (lvn V (H, c)).1 ∧ HB (vm V) (lvn V (H, c)).1 (M + 51678) ∧ CB (lvn V (H, c)).1 (lvn V (H, c)).2 (C + 99999) := by
  have hm := hG.1
  rcases lvs_ok hG hC 144 (by omega) with h | h
  · unfold lvn
    simp only
    rw [if_pos (by rw [h])]
    refine ⟨hGH, hB.mono (by omega), fun k a b d => ?_⟩
    have := hC k a b d
    show 0 ≤ c k ∧ c k ≤ C + 99999
    omega
  · unfold lvn
    simp only
    rw [if_neg (by omega)]
    have c2 := gd_ris hG (isE_iff.mp h.2.2.2.2.2.2.2.1)
    have xb := hB _ h.2.2.1 h.2.2.2.1 h.2.2.2.2.2.2.1
    refine ⟨hGH.put (by omega), (hB.mono (by omega)).put ?_, fun k a b d => ?_⟩
    · unfold rfk; split <;> omega
    · simp only [putH_hh] at d
      simp only
      split
      · omega
      · rename_i hk
        rw [if_neg hk] at d
        have := hC k a b d
        omega
section H60
variable {e : Nat} {I J : IM} {Q : Post} {V : Vw} {H : Hw} {s v a b : Int} {c : Int → Int}
theorem sp_X2_levelNext (hq : e ∈ stLs) {q : Nat} (hq2 : q ∈ stLs) (hG : Good V) (hM : Md I V) (hW : Rwl I 5 V) (hGH : GoodH (vm V) H) (hH : Rht I q H) (hB : HB (vm V) H 1900000000) (hcI : ∀ k : Int, 0 ≤ k → k < 12 → I 199 k = c k) (hC : CB H c 1900000000)
    (hQ : ∀ I' : IM, (∀ p, p ≠ q + 3 → p ≠ q + 4 → p ≠ 199 → I' p = I p) → Rht I' q (lvn V (H, c)).1 → (∀ k : Int, 0 ≤ k → k < 12 → I' 199 k = (lvn V (H, c)).2 k) → Q (.inl none) (ME e I' J)) : SX2_levelNext [.ref 198, .ref q] (ME e I J) Q := by
  refine x_in (Nat.le_of_ble_eq_true rfl) ?_
  dsimp only [bX2_levelNext, bX2_levelNext_0]
  have hm := hG.1
  have rg := st_rg hq2
  have f5 : I 5 0 = vm V := hW.1
  have ok := lvs_ok (H := H) hG hC
  refine x_for (vm V) (fun i av μ => av = [.ref 198, .ref q, .int (i32 (lvs V H c (12 * i)).1), .int (i32 (lvs V H c (12 * i)).2.1), .int (i32 (lvs V H c (12 * i)).2.2), .int (i32 i)] ∧ μ = ME e I J) ?_ ?_ (Nat.zero_le _) ⟨by simp [lvs, Int.cast_ofNat_Int, Int.natCast_add, Int.toNat_natCast, i32_add, i32_sub, i32_mul, i32_neg, i32_lit, i64_add, i64_sub, i64_mul, i64_neg, i64_lit, i64_int], rfl⟩
  · rintro b av μ hi ⟨rfl, rfl⟩ hJ
    dsimp only [bX2_levelNext, bX2_levelNext_1]
    have gb := (hGH b (by omega) (by omega)).2.1
    by_cases hb1 : hh H b = 1
    · have fl : lvs V H c (12 * (b + 1)) = lvs V H c (12 * b) := lvs_flat (by omega) fun j h1 h2 => by
        cases hx : lvc V H j
        · rfl
        · have := (lvc_iff.mp hx).1
          rw [show (j : Int) / 12 = b by omega] at this
          omega
      (repeat' first | ((with_reducible apply x_gR); rfl; rfl) | ((with_reducible apply x_gRs hq); rfl) | ((with_reducible refine x_gI ?_ ?_); rfl; try simp only [Int.cast_ofNat_Int]) | ((with_reducible refine x_gIs hq ?_); try simp only [Int.cast_ofNat_Int]) | ((with_reducible refine x_ob ?_ ?_); rfl) | (with_reducible refine x_obs hq ?_) | (with_reducible refine x_lI ?_) | (with_reducible refine x_lJ ?_) | (with_reducible refine x_le (by omega) (by omega) (fun h => ?_) (fun h => ?_)) | (with_reducible refine x_lt (by omega) (by omega) (fun h => ?_) (fun h => ?_)) | (with_reducible refine x_eq (by omega) (by omega) (fun h => ?_) (fun h => ?_)) | (with_reducible refine x_brT ?_) | (with_reducible refine x_brF ?_) | (with_reducible refine x_rI ?_) | (with_reducible refine x_rV ?_) | (with_reducible refine x_rJ ?_) | (with_reducible refine x_rZ (by omega) ?_) | (with_reducible refine x_rO ?_) | (with_reducible refine x_thr ?_) | ((with_reducible refine x_pI ?_ ?_); rfl; try simp only [Int.cast_ofNat_Int]) | ((with_reducible refine x_pIs hq ?_); try simp only [Int.cast_ofNat_Int]) | ((with_reducible refine x_pZ ?_ (by omega) ?_); rfl; try simp only [Int.cast_ofNat_Int]) | ((with_reducible refine x_pZs hq (by omega) ?_); try simp only [Int.cast_ofNat_Int]) | (with_reducible refine x_pR ?_) | ((with_reducible apply x_aI); (first | assumption | rfl | exact (kb_st _ hq).2.1 | exact (kb_st _ hq).2.2.1 _ (by omega) (by omega) | exact (kb_st _ hq).2.2.2.1 _ (by omega) (by omega)); omega; omega; omega) | ((with_reducible apply x_sA); (first | assumption | rfl | exact (kb_st _ hq).2.1 | exact (kb_st _ hq).2.2.1 _ (by omega) (by omega) | exact (kb_st _ hq).2.2.2.1 _ (by omega) (by omega)); omega; omega; omega) | ((with_reducible apply x_aL); (first | assumption | rfl | exact (kb_st _ hq).2.1 | exact (kb_st _ hq).2.2.1 _ (by omega) (by omega) | exact (kb_st _ hq).2.2.2.1 _ (by omega) (by omega)); omega) | ((with_reducible apply x_cV); (with_reducible apply sp_X10_put); (first | assumption | rfl | exact (kb_st _ hq).2.1 | exact (kb_st _ hq).2.2.1 _ (by omega) (by omega) | exact (kb_st _ hq).2.2.2.1 _ (by omega) (by omega)); omega; omega; omega; omega) | ((with_reducible refine x_cI (sp_X0_between (k := 0) ?_ ?_ ?_)); omega; omega) | ((with_reducible refine x_cI (sp_X2_told hq ?_ hG ?_ hGH ?_ ?_ ?_ ?_ ?_ ?_)); (first | exact hq | assumption); assumption; (focus (first | assumption | exact Rht.up (by assumption) (by omega))); omega; assumption; (first | assumption | omega); (first | assumption | omega)) | ((with_reducible refine x_cV (sp_X6_putHeight ?_ ?_ ?_ ?_)); assumption; assumption; omega) | ((with_reducible refine x_cI (sp_X6_hasHeight ?_ ?_ hGH ?_ ?_ ?_)); assumption; assumption; (focus (first | assumption | exact Rht.up (by assumption) (by omega))); omega) | ((with_reducible apply x_cI); (with_reducible apply sp_X10_cell); (first | assumption | rfl | exact (kb_st _ hq).2.1 | exact (kb_st _ hq).2.2.1 _ (by omega) (by omega) | exact (kb_st _ hq).2.2.2.1 _ (by omega) (by omega)); omega; omega; omega; omega) | ((with_reducible refine x_cI (sp_X9_distance ?_ hG ?_ ?_ ?_ ?_)); exact ⟨rfl, rfl, rfl⟩; (focus (repeat' first | assumption | exact Rst.up (by assumption) (by omega) | refine Rst.up ?_ (by omega) | refine Rwl.up ?_ (by omega) | refine Rrw.up ?_ (by omega))); omega; omega) | ((with_reducible apply x_aB); rfl; omega; omega; omega; omega) | ((with_reducible apply x_sZ); rfl; omega; omega; omega; omega) | ((with_reducible refine x_nz ?_ ?_ ?_ ?_); omega; omega; omega) | ((with_reducible refine x_nzl ?_ ?_ ?_ ?_); omega; omega; omega) | (with_reducible refine x_obs hq2 ?_) | (simp (disch := omega) only [Int.cast_ofNat_Int, Int.natCast_add, Int.toNat_natCast, i32_add, i32_sub, i32_mul, i32_neg, i32_lit, i64_add, i64_sub, i64_mul, i64_neg, i64_lit, i64_int, f5, i32_long, up_self, up_q, up_k]))
      all_goals (try omega)
      exact hJ _ _ ⟨by rw [fl]; simp only [Int.cast_ofNat_Int, Int.natCast_add, Int.toNat_natCast, i32_add, i32_sub, i32_mul, i32_neg, i32_lit, i64_add, i64_sub, i64_mul, i64_neg, i64_lit, i64_int], rfl⟩
    · have inner : fx bX2_levelNext 2 [.ref 198, .ref q, .int (i32 (lvs V H c (12 * b)).1), .int (i32 (lvs V H c (12 * b)).2.1), .int (i32 (lvs V H c (12 * b)).2.2), .int (i32 b), .int (i32 0)] (ME e I J) Q := by
        refine x_for (vm V) (fun i av μ => av = [.ref 198, .ref q, .int (i32 (lvs V H c (12 * b + i)).1), .int (i32 (lvs V H c (12 * b + i)).2.1), .int (i32 (lvs V H c (12 * b + i)).2.2), .int (i32 b), .int (i32 i)] ∧ μ = ME e I J) ?_ ?_ (Nat.zero_le _) ⟨by simp [Int.cast_ofNat_Int, Int.natCast_add, Int.toNat_natCast, i32_add, i32_sub, i32_mul, i32_neg, i32_lit, i64_add, i64_sub, i64_mul, i64_neg, i64_lit, i64_int], rfl⟩
        · rintro a av μ ha ⟨rfl, rfl⟩ hJ2
          dsimp only [bX2_levelNext, bX2_levelNext_2]
          have ga := (hGH a (by omega) (by omega)).2.1
          have d1 : ((12 * b + a : Nat) : Int) / 12 = b := by omega
          have d2 : ((12 * b + a : Nat) : Int) % 12 = a := by omega
          have hs : lvs V H c (12 * b + (a + 1)) = if lvc V H ((12 * b + a : Nat) : Int) = true ∧ ((lvs V H c (12 * b + a)).1 = -1 ∨ lco V c ((12 * b + a : Nat) : Int) < (lvs V H c (12 * b + a)).2.2) then (((12 * b + a : Nat) : Int) / 12, ((12 * b + a : Nat) : Int) % 12, lco V c ((12 * b + a : Nat) : Int)) else lvs V H c (12 * b + a) := rfl
          have hl : lco V c ((12 * b + a : Nat) : Int) = c a + dst V a b := by unfold lco; rw [d1, d2]
          rw [hl, d1, d2] at hs
          have ok1 := ok (12 * b + a) (by omega)
          have k1 : -1 ≤ (lvs V H c (12 * b + a)).1 ∧ (lvs V H c (12 * b + a)).1 < 12 ∧ -1 ≤ (lvs V H c (12 * b + a)).2.1 ∧ (lvs V H c (12 * b + a)).2.1 < 12 ∧ 0 ≤ (lvs V H c (12 * b + a)).2.2 ∧ (lvs V H c (12 * b + a)).2.2 ≤ 1900099999 := by
            rcases ok1 with h | h
            · rw [h]; simp
            · omega
          by_cases ha1 : hh H a = 1
          · have hne : (a : Int) ≠ b := fun h => by rw [h] at ha1; exact hb1 ha1
            have pg := pq_rg (a := (a : Int)) (b := b) (m := 12) (by omega) (by omega) (by omega) hne
            have h5 := hM.2.2.2.2 (pq (a : Int) b).toNat (by omega)
            rw [Int.toNat_of_nonneg pg.1] at h5
            have fc := hcI a (by omega) (by omega)
            have bc := hC a (by omega) (by omega) ha1
            have gd := gd_dst hG (a := (a : Int)) (b := b) (by omega) (by omega)
            cases hE : isE V (pq (a : Int) b)
            · have hl0 : lvc V H ((12 * b + a : Nat) : Int) = false := by
                cases hx : lvc V H ((12 * b + a : Nat) : Int)
                · rfl
                · have := (lvc_iff.mp hx).2.2
                  rw [d1, d2, hE] at this
                  exact this.symm
              rw [hl0, if_neg (fun q => absurd q.1 (by decide))] at hs
              rw [hE, if_neg (by decide)] at h5
              (repeat' first | ((with_reducible apply x_gR); rfl; rfl) | ((with_reducible apply x_gRs hq); rfl) | ((with_reducible refine x_gI ?_ ?_); rfl; try simp only [Int.cast_ofNat_Int]) | ((with_reducible refine x_gIs hq ?_); try simp only [Int.cast_ofNat_Int]) | ((with_reducible refine x_ob ?_ ?_); rfl) | (with_reducible refine x_obs hq ?_) | (with_reducible refine x_lI ?_) | (with_reducible refine x_lJ ?_) | (with_reducible refine x_le (by omega) (by omega) (fun h => ?_) (fun h => ?_)) | (with_reducible refine x_lt (by omega) (by omega) (fun h => ?_) (fun h => ?_)) | (with_reducible refine x_eq (by omega) (by omega) (fun h => ?_) (fun h => ?_)) | (with_reducible refine x_brT ?_) | (with_reducible refine x_brF ?_) | (with_reducible refine x_rI ?_) | (with_reducible refine x_rV ?_) | (with_reducible refine x_rJ ?_) | (with_reducible refine x_rZ (by omega) ?_) | (with_reducible refine x_rO ?_) | (with_reducible refine x_thr ?_) | ((with_reducible refine x_pI ?_ ?_); rfl; try simp only [Int.cast_ofNat_Int]) | ((with_reducible refine x_pIs hq ?_); try simp only [Int.cast_ofNat_Int]) | ((with_reducible refine x_pZ ?_ (by omega) ?_); rfl; try simp only [Int.cast_ofNat_Int]) | ((with_reducible refine x_pZs hq (by omega) ?_); try simp only [Int.cast_ofNat_Int]) | (with_reducible refine x_pR ?_) | ((with_reducible apply x_aI); (first | assumption | rfl | exact (kb_st _ hq).2.1 | exact (kb_st _ hq).2.2.1 _ (by omega) (by omega) | exact (kb_st _ hq).2.2.2.1 _ (by omega) (by omega)); omega; omega; omega) | ((with_reducible apply x_sA); (first | assumption | rfl | exact (kb_st _ hq).2.1 | exact (kb_st _ hq).2.2.1 _ (by omega) (by omega) | exact (kb_st _ hq).2.2.2.1 _ (by omega) (by omega)); omega; omega; omega) | ((with_reducible apply x_aL); (first | assumption | rfl | exact (kb_st _ hq).2.1 | exact (kb_st _ hq).2.2.1 _ (by omega) (by omega) | exact (kb_st _ hq).2.2.2.1 _ (by omega) (by omega)); omega) | ((with_reducible apply x_cV); (with_reducible apply sp_X10_put); (first | assumption | rfl | exact (kb_st _ hq).2.1 | exact (kb_st _ hq).2.2.1 _ (by omega) (by omega) | exact (kb_st _ hq).2.2.2.1 _ (by omega) (by omega)); omega; omega; omega; omega) | ((with_reducible refine x_cI (sp_X0_between (k := 0) ?_ ?_ ?_)); omega; omega) | ((with_reducible refine x_cI (sp_X2_told hq ?_ hG ?_ hGH ?_ ?_ ?_ ?_ ?_ ?_)); (first | exact hq | assumption); assumption; (focus (first | assumption | exact Rht.up (by assumption) (by omega))); omega; assumption; (first | assumption | omega); (first | assumption | omega)) | ((with_reducible refine x_cV (sp_X6_putHeight ?_ ?_ ?_ ?_)); assumption; assumption; omega) | ((with_reducible refine x_cI (sp_X6_hasHeight ?_ ?_ hGH ?_ ?_ ?_)); assumption; assumption; (focus (first | assumption | exact Rht.up (by assumption) (by omega))); omega) | ((with_reducible apply x_cI); (with_reducible apply sp_X10_cell); (first | assumption | rfl | exact (kb_st _ hq).2.1 | exact (kb_st _ hq).2.2.1 _ (by omega) (by omega) | exact (kb_st _ hq).2.2.2.1 _ (by omega) (by omega)); omega; omega; omega; omega) | ((with_reducible refine x_cI (sp_X9_distance ?_ hG ?_ ?_ ?_ ?_)); exact ⟨rfl, rfl, rfl⟩; (focus (repeat' first | assumption | exact Rst.up (by assumption) (by omega) | refine Rst.up ?_ (by omega) | refine Rwl.up ?_ (by omega) | refine Rrw.up ?_ (by omega))); omega; omega) | ((with_reducible apply x_aB); rfl; omega; omega; omega; omega) | ((with_reducible apply x_sZ); rfl; omega; omega; omega; omega) | ((with_reducible refine x_nz ?_ ?_ ?_ ?_); omega; omega; omega) | ((with_reducible refine x_nzl ?_ ?_ ?_ ?_); omega; omega; omega) | (with_reducible refine x_obs hq2 ?_) | (simp (disch := omega) only [Int.cast_ofNat_Int, Int.natCast_add, Int.toNat_natCast, i32_add, i32_sub, i32_mul, i32_neg, i32_lit, i64_add, i64_sub, i64_mul, i64_neg, i64_lit, i64_int, f5, hne, if_false, h5, i32_long, up_self, up_q, up_k]))
              all_goals (try omega)
              all_goals exact hJ2 _ _ ⟨by rw [hs]; simp only [Int.cast_ofNat_Int, Int.natCast_add, Int.toNat_natCast, i32_add, i32_sub, i32_mul, i32_neg, i32_lit, i64_add, i64_sub, i64_mul, i64_neg, i64_lit, i64_int], rfl⟩
            · have hl0 : lvc V H ((12 * b + a : Nat) : Int) = true := lvc_iff.mpr ⟨by rw [d1]; omega, by rw [d2]; exact ha1, by rw [d1, d2]; exact hE⟩
              rw [hl0] at hs
              rw [hE, if_pos rfl] at h5
              have rk4 : (rk V (pq (a : Int) b).toNat : Int) < 40 := by
                have := rk_lt40 hG (k := (pq (a : Int) b).toNat) (by omega) (by rw [Int.toNat_of_nonneg pg.1]; exact hE)
                omega
              (repeat' first | ((with_reducible apply x_gR); rfl; rfl) | ((with_reducible apply x_gRs hq); rfl) | ((with_reducible refine x_gI ?_ ?_); rfl; try simp only [Int.cast_ofNat_Int]) | ((with_reducible refine x_gIs hq ?_); try simp only [Int.cast_ofNat_Int]) | ((with_reducible refine x_ob ?_ ?_); rfl) | (with_reducible refine x_obs hq ?_) | (with_reducible refine x_lI ?_) | (with_reducible refine x_lJ ?_) | (with_reducible refine x_le (by omega) (by omega) (fun h => ?_) (fun h => ?_)) | (with_reducible refine x_lt (by omega) (by omega) (fun h => ?_) (fun h => ?_)) | (with_reducible refine x_eq (by omega) (by omega) (fun h => ?_) (fun h => ?_)) | (with_reducible refine x_brT ?_) | (with_reducible refine x_brF ?_) | (with_reducible refine x_rI ?_) | (with_reducible refine x_rV ?_) | (with_reducible refine x_rJ ?_) | (with_reducible refine x_rZ (by omega) ?_) | (with_reducible refine x_rO ?_) | (with_reducible refine x_thr ?_) | ((with_reducible refine x_pI ?_ ?_); rfl; try simp only [Int.cast_ofNat_Int]) | ((with_reducible refine x_pIs hq ?_); try simp only [Int.cast_ofNat_Int]) | ((with_reducible refine x_pZ ?_ (by omega) ?_); rfl; try simp only [Int.cast_ofNat_Int]) | ((with_reducible refine x_pZs hq (by omega) ?_); try simp only [Int.cast_ofNat_Int]) | (with_reducible refine x_pR ?_) | ((with_reducible apply x_aI); (first | assumption | rfl | exact (kb_st _ hq).2.1 | exact (kb_st _ hq).2.2.1 _ (by omega) (by omega) | exact (kb_st _ hq).2.2.2.1 _ (by omega) (by omega)); omega; omega; omega) | ((with_reducible apply x_sA); (first | assumption | rfl | exact (kb_st _ hq).2.1 | exact (kb_st _ hq).2.2.1 _ (by omega) (by omega) | exact (kb_st _ hq).2.2.2.1 _ (by omega) (by omega)); omega; omega; omega) | ((with_reducible apply x_aL); (first | assumption | rfl | exact (kb_st _ hq).2.1 | exact (kb_st _ hq).2.2.1 _ (by omega) (by omega) | exact (kb_st _ hq).2.2.2.1 _ (by omega) (by omega)); omega) | ((with_reducible apply x_cV); (with_reducible apply sp_X10_put); (first | assumption | rfl | exact (kb_st _ hq).2.1 | exact (kb_st _ hq).2.2.1 _ (by omega) (by omega) | exact (kb_st _ hq).2.2.2.1 _ (by omega) (by omega)); omega; omega; omega; omega) | ((with_reducible refine x_cI (sp_X0_between (k := 0) ?_ ?_ ?_)); omega; omega) | ((with_reducible refine x_cI (sp_X2_told hq ?_ hG ?_ hGH ?_ ?_ ?_ ?_ ?_ ?_)); (first | exact hq | assumption); assumption; (focus (first | assumption | exact Rht.up (by assumption) (by omega))); omega; assumption; (first | assumption | omega); (first | assumption | omega)) | ((with_reducible refine x_cV (sp_X6_putHeight ?_ ?_ ?_ ?_)); assumption; assumption; omega) | ((with_reducible refine x_cI (sp_X6_hasHeight ?_ ?_ hGH ?_ ?_ ?_)); assumption; assumption; (focus (first | assumption | exact Rht.up (by assumption) (by omega))); omega) | ((with_reducible apply x_cI); (with_reducible apply sp_X10_cell); (first | assumption | rfl | exact (kb_st _ hq).2.1 | exact (kb_st _ hq).2.2.1 _ (by omega) (by omega) | exact (kb_st _ hq).2.2.2.1 _ (by omega) (by omega)); omega; omega; omega; omega) | ((with_reducible refine x_cI (sp_X9_distance ?_ hG ?_ ?_ ?_ ?_)); exact ⟨rfl, rfl, rfl⟩; (focus (repeat' first | assumption | exact Rst.up (by assumption) (by omega) | refine Rst.up ?_ (by omega) | refine Rwl.up ?_ (by omega) | refine Rrw.up ?_ (by omega))); omega; omega) | ((with_reducible apply x_aB); rfl; omega; omega; omega; omega) | ((with_reducible apply x_sZ); rfl; omega; omega; omega; omega) | ((with_reducible refine x_nz ?_ ?_ ?_ ?_); omega; omega; omega) | ((with_reducible refine x_nzl ?_ ?_ ?_ ?_); omega; omega; omega) | (with_reducible refine x_obs hq2 ?_) | (simp (disch := omega) only [Int.cast_ofNat_Int, Int.natCast_add, Int.toNat_natCast, i32_add, i32_sub, i32_mul, i32_neg, i32_lit, i64_add, i64_sub, i64_mul, i64_neg, i64_lit, i64_int, f5, hne, if_false, h5, fc, i32_long, up_self, up_q, up_k]))
              all_goals (try omega)
              all_goals first
                | exact hJ2 _ _ ⟨by rw [hs, if_pos ⟨rfl, Or.inl (by assumption)⟩]; simp only [Int.cast_ofNat_Int, Int.natCast_add, Int.toNat_natCast, i32_add, i32_sub, i32_mul, i32_neg, i32_lit, i64_add, i64_sub, i64_mul, i64_neg, i64_lit, i64_int], rfl⟩
                | exact hJ2 _ _ ⟨by rw [hs, if_pos ⟨rfl, Or.inr (by omega)⟩]; simp only [Int.cast_ofNat_Int, Int.natCast_add, Int.toNat_natCast, i32_add, i32_sub, i32_mul, i32_neg, i32_lit, i64_add, i64_sub, i64_mul, i64_neg, i64_lit, i64_int], rfl⟩
                | exact hJ2 _ _ ⟨by rw [hs, if_neg (fun q => by omega)]; simp only [Int.cast_ofNat_Int, Int.natCast_add, Int.toNat_natCast, i32_add, i32_sub, i32_mul, i32_neg, i32_lit, i64_add, i64_sub, i64_mul, i64_neg, i64_lit, i64_int], rfl⟩
          · have hl0 : lvc V H ((12 * b + a : Nat) : Int) = false := by
              cases hx : lvc V H ((12 * b + a : Nat) : Int)
              · rfl
              · have := (lvc_iff.mp hx).2.1
                rw [d2] at this
                exact absurd this ha1
            rw [hl0, if_neg (fun q => absurd q.1 (by decide))] at hs
            (repeat' first | ((with_reducible apply x_gR); rfl; rfl) | ((with_reducible apply x_gRs hq); rfl) | ((with_reducible refine x_gI ?_ ?_); rfl; try simp only [Int.cast_ofNat_Int]) | ((with_reducible refine x_gIs hq ?_); try simp only [Int.cast_ofNat_Int]) | ((with_reducible refine x_ob ?_ ?_); rfl) | (with_reducible refine x_obs hq ?_) | (with_reducible refine x_lI ?_) | (with_reducible refine x_lJ ?_) | (with_reducible refine x_le (by omega) (by omega) (fun h => ?_) (fun h => ?_)) | (with_reducible refine x_lt (by omega) (by omega) (fun h => ?_) (fun h => ?_)) | (with_reducible refine x_eq (by omega) (by omega) (fun h => ?_) (fun h => ?_)) | (with_reducible refine x_brT ?_) | (with_reducible refine x_brF ?_) | (with_reducible refine x_rI ?_) | (with_reducible refine x_rV ?_) | (with_reducible refine x_rJ ?_) | (with_reducible refine x_rZ (by omega) ?_) | (with_reducible refine x_rO ?_) | (with_reducible refine x_thr ?_) | ((with_reducible refine x_pI ?_ ?_); rfl; try simp only [Int.cast_ofNat_Int]) | ((with_reducible refine x_pIs hq ?_); try simp only [Int.cast_ofNat_Int]) | ((with_reducible refine x_pZ ?_ (by omega) ?_); rfl; try simp only [Int.cast_ofNat_Int]) | ((with_reducible refine x_pZs hq (by omega) ?_); try simp only [Int.cast_ofNat_Int]) | (with_reducible refine x_pR ?_) | ((with_reducible apply x_aI); (first | assumption | rfl | exact (kb_st _ hq).2.1 | exact (kb_st _ hq).2.2.1 _ (by omega) (by omega) | exact (kb_st _ hq).2.2.2.1 _ (by omega) (by omega)); omega; omega; omega) | ((with_reducible apply x_sA); (first | assumption | rfl | exact (kb_st _ hq).2.1 | exact (kb_st _ hq).2.2.1 _ (by omega) (by omega) | exact (kb_st _ hq).2.2.2.1 _ (by omega) (by omega)); omega; omega; omega) | ((with_reducible apply x_aL); (first | assumption | rfl | exact (kb_st _ hq).2.1 | exact (kb_st _ hq).2.2.1 _ (by omega) (by omega) | exact (kb_st _ hq).2.2.2.1 _ (by omega) (by omega)); omega) | ((with_reducible apply x_cV); (with_reducible apply sp_X10_put); (first | assumption | rfl | exact (kb_st _ hq).2.1 | exact (kb_st _ hq).2.2.1 _ (by omega) (by omega) | exact (kb_st _ hq).2.2.2.1 _ (by omega) (by omega)); omega; omega; omega; omega) | ((with_reducible refine x_cI (sp_X0_between (k := 0) ?_ ?_ ?_)); omega; omega) | ((with_reducible refine x_cI (sp_X2_told hq ?_ hG ?_ hGH ?_ ?_ ?_ ?_ ?_ ?_)); (first | exact hq | assumption); assumption; (focus (first | assumption | exact Rht.up (by assumption) (by omega))); omega; assumption; (first | assumption | omega); (first | assumption | omega)) | ((with_reducible refine x_cV (sp_X6_putHeight ?_ ?_ ?_ ?_)); assumption; assumption; omega) | ((with_reducible refine x_cI (sp_X6_hasHeight ?_ ?_ hGH ?_ ?_ ?_)); assumption; assumption; (focus (first | assumption | exact Rht.up (by assumption) (by omega))); omega) | ((with_reducible apply x_cI); (with_reducible apply sp_X10_cell); (first | assumption | rfl | exact (kb_st _ hq).2.1 | exact (kb_st _ hq).2.2.1 _ (by omega) (by omega) | exact (kb_st _ hq).2.2.2.1 _ (by omega) (by omega)); omega; omega; omega; omega) | ((with_reducible refine x_cI (sp_X9_distance ?_ hG ?_ ?_ ?_ ?_)); exact ⟨rfl, rfl, rfl⟩; (focus (repeat' first | assumption | exact Rst.up (by assumption) (by omega) | refine Rst.up ?_ (by omega) | refine Rwl.up ?_ (by omega) | refine Rrw.up ?_ (by omega))); omega; omega) | ((with_reducible apply x_aB); rfl; omega; omega; omega; omega) | ((with_reducible apply x_sZ); rfl; omega; omega; omega; omega) | ((with_reducible refine x_nz ?_ ?_ ?_ ?_); omega; omega; omega) | ((with_reducible refine x_nzl ?_ ?_ ?_ ?_); omega; omega; omega) | (with_reducible refine x_obs hq2 ?_) | (simp (disch := omega) only [Int.cast_ofNat_Int, Int.natCast_add, Int.toNat_natCast, i32_add, i32_sub, i32_mul, i32_neg, i32_lit, i64_add, i64_sub, i64_mul, i64_neg, i64_lit, i64_int, f5, i32_long, up_self, up_q, up_k]))
            all_goals (try omega)
            all_goals exact hJ2 _ _ ⟨by rw [hs]; simp only [Int.cast_ofNat_Int, Int.natCast_add, Int.toNat_natCast, i32_add, i32_sub, i32_mul, i32_neg, i32_lit, i64_add, i64_sub, i64_mul, i64_neg, i64_lit, i64_int], rfl⟩
        · rintro av μ ⟨rfl, rfl⟩
          dsimp only [bX2_levelNext, bX2_levelNext_2]
          have fl : lvs V H c (12 * (b + 1)) = lvs V H c (12 * b + vm V) := lvs_flat (by omega) fun j h1 h2 => by
            cases hx : lvc V H j
            · rfl
            · have := lvc_rg hG (by omega) (by omega) hx
              omega
          (repeat' first | ((with_reducible apply x_gR); rfl; rfl) | ((with_reducible apply x_gRs hq); rfl) | ((with_reducible refine x_gI ?_ ?_); rfl; try simp only [Int.cast_ofNat_Int]) | ((with_reducible refine x_gIs hq ?_); try simp only [Int.cast_ofNat_Int]) | ((with_reducible refine x_ob ?_ ?_); rfl) | (with_reducible refine x_obs hq ?_) | (with_reducible refine x_lI ?_) | (with_reducible refine x_lJ ?_) | (with_reducible refine x_le (by omega) (by omega) (fun h => ?_) (fun h => ?_)) | (with_reducible refine x_lt (by omega) (by omega) (fun h => ?_) (fun h => ?_)) | (with_reducible refine x_eq (by omega) (by omega) (fun h => ?_) (fun h => ?_)) | (with_reducible refine x_brT ?_) | (with_reducible refine x_brF ?_) | (with_reducible refine x_rI ?_) | (with_reducible refine x_rV ?_) | (with_reducible refine x_rJ ?_) | (with_reducible refine x_rZ (by omega) ?_) | (with_reducible refine x_rO ?_) | (with_reducible refine x_thr ?_) | ((with_reducible refine x_pI ?_ ?_); rfl; try simp only [Int.cast_ofNat_Int]) | ((with_reducible refine x_pIs hq ?_); try simp only [Int.cast_ofNat_Int]) | ((with_reducible refine x_pZ ?_ (by omega) ?_); rfl; try simp only [Int.cast_ofNat_Int]) | ((with_reducible refine x_pZs hq (by omega) ?_); try simp only [Int.cast_ofNat_Int]) | (with_reducible refine x_pR ?_) | ((with_reducible apply x_aI); (first | assumption | rfl | exact (kb_st _ hq).2.1 | exact (kb_st _ hq).2.2.1 _ (by omega) (by omega) | exact (kb_st _ hq).2.2.2.1 _ (by omega) (by omega)); omega; omega; omega) | ((with_reducible apply x_sA); (first | assumption | rfl | exact (kb_st _ hq).2.1 | exact (kb_st _ hq).2.2.1 _ (by omega) (by omega) | exact (kb_st _ hq).2.2.2.1 _ (by omega) (by omega)); omega; omega; omega) | ((with_reducible apply x_aL); (first | assumption | rfl | exact (kb_st _ hq).2.1 | exact (kb_st _ hq).2.2.1 _ (by omega) (by omega) | exact (kb_st _ hq).2.2.2.1 _ (by omega) (by omega)); omega) | ((with_reducible refine x_cI (sp_X6_counts hq ?_ hG ?_ ?_ ?_ ?_)); (first | exact hq | assumption); (focus (repeat' first | assumption | exact Rst.up (by assumption) (by omega) | refine Rst.up ?_ (by omega) | refine Rwl.up ?_ (by omega) | refine Rrw.up ?_ (by omega))); omega; omega) | ((with_reducible apply x_cV); (with_reducible apply sp_X10_put); (first | assumption | rfl | exact (kb_st _ hq).2.1 | exact (kb_st _ hq).2.2.1 _ (by omega) (by omega) | exact (kb_st _ hq).2.2.2.1 _ (by omega) (by omega)); omega; omega; omega; omega) | ((with_reducible refine x_cI (sp_X0_between (k := 0) ?_ ?_ ?_)); omega; omega) | ((with_reducible refine x_cI (sp_X2_told hq ?_ hG ?_ hGH ?_ ?_ ?_ ?_ ?_ ?_)); (first | exact hq | assumption); assumption; (focus (first | assumption | exact Rht.up (by assumption) (by omega))); omega; assumption; (first | assumption | omega); (first | assumption | omega)) | ((with_reducible refine x_cV (sp_X6_putHeight ?_ ?_ ?_ ?_)); assumption; assumption; omega) | ((with_reducible refine x_cI (sp_X6_hasHeight ?_ ?_ hGH ?_ ?_ ?_)); assumption; assumption; (focus (first | assumption | exact Rht.up (by assumption) (by omega))); omega) | ((with_reducible apply x_cI); (with_reducible apply sp_X10_cell); (first | assumption | rfl | exact (kb_st _ hq).2.1 | exact (kb_st _ hq).2.2.1 _ (by omega) (by omega) | exact (kb_st _ hq).2.2.2.1 _ (by omega) (by omega)); omega; omega; omega; omega) | ((with_reducible refine x_cI (sp_X9_distance ?_ hG ?_ ?_ ?_ ?_)); exact ⟨rfl, rfl, rfl⟩; (focus (repeat' first | assumption | exact Rst.up (by assumption) (by omega) | refine Rst.up ?_ (by omega) | refine Rwl.up ?_ (by omega) | refine Rrw.up ?_ (by omega))); omega; omega) | ((with_reducible apply x_aB); rfl; omega; omega; omega; omega) | ((with_reducible apply x_sZ); rfl; omega; omega; omega; omega) | ((with_reducible refine x_nz ?_ ?_ ?_ ?_); omega; omega; omega) | ((with_reducible refine x_nzl ?_ ?_ ?_ ?_); omega; omega; omega) | (simp (disch := omega) only [Int.cast_ofNat_Int, Int.natCast_add, Int.toNat_natCast, i32_add, i32_sub, i32_mul, i32_neg, i32_lit, i64_add, i64_sub, i64_mul, i64_neg, i64_lit, i64_int, f5, i32_long, up_self, up_q, up_k]))
          all_goals (try omega)
          exact hJ _ _ ⟨by rw [fl]; simp only [Int.cast_ofNat_Int, Int.natCast_add, Int.toNat_natCast, i32_add, i32_sub, i32_mul, i32_neg, i32_lit, i64_add, i64_sub, i64_mul, i64_neg, i64_lit, i64_int], rfl⟩
      (repeat' first | ((with_reducible apply x_gR); rfl; rfl) | ((with_reducible apply x_gRs hq); rfl) | ((with_reducible refine x_gI ?_ ?_); rfl; try simp only [Int.cast_ofNat_Int]) | ((with_reducible refine x_gIs hq ?_); try simp only [Int.cast_ofNat_Int]) | ((with_reducible refine x_ob ?_ ?_); rfl) | (with_reducible refine x_obs hq ?_) | (with_reducible refine x_lI ?_) | (with_reducible refine x_lJ ?_) | (with_reducible refine x_le (by omega) (by omega) (fun h => ?_) (fun h => ?_)) | (with_reducible refine x_lt (by omega) (by omega) (fun h => ?_) (fun h => ?_)) | (with_reducible refine x_eq (by omega) (by omega) (fun h => ?_) (fun h => ?_)) | (with_reducible refine x_brT ?_) | (with_reducible refine x_brF ?_) | (with_reducible refine x_rI ?_) | (with_reducible refine x_rV ?_) | (with_reducible refine x_rJ ?_) | (with_reducible refine x_rZ (by omega) ?_) | (with_reducible refine x_rO ?_) | (with_reducible refine x_thr ?_) | ((with_reducible refine x_pI ?_ ?_); rfl; try simp only [Int.cast_ofNat_Int]) | ((with_reducible refine x_pIs hq ?_); try simp only [Int.cast_ofNat_Int]) | ((with_reducible refine x_pZ ?_ (by omega) ?_); rfl; try simp only [Int.cast_ofNat_Int]) | ((with_reducible refine x_pZs hq (by omega) ?_); try simp only [Int.cast_ofNat_Int]) | (with_reducible refine x_pR ?_) | ((with_reducible apply x_aI); (first | assumption | rfl | exact (kb_st _ hq).2.1 | exact (kb_st _ hq).2.2.1 _ (by omega) (by omega) | exact (kb_st _ hq).2.2.2.1 _ (by omega) (by omega)); omega; omega; omega) | ((with_reducible apply x_sA); (first | assumption | rfl | exact (kb_st _ hq).2.1 | exact (kb_st _ hq).2.2.1 _ (by omega) (by omega) | exact (kb_st _ hq).2.2.2.1 _ (by omega) (by omega)); omega; omega; omega) | ((with_reducible apply x_aL); (first | assumption | rfl | exact (kb_st _ hq).2.1 | exact (kb_st _ hq).2.2.1 _ (by omega) (by omega) | exact (kb_st _ hq).2.2.2.1 _ (by omega) (by omega)); omega) | ((with_reducible apply x_cV); (with_reducible apply sp_X10_put); (first | assumption | rfl | exact (kb_st _ hq).2.1 | exact (kb_st _ hq).2.2.1 _ (by omega) (by omega) | exact (kb_st _ hq).2.2.2.1 _ (by omega) (by omega)); omega; omega; omega; omega) | ((with_reducible refine x_cI (sp_X0_between (k := 0) ?_ ?_ ?_)); omega; omega) | ((with_reducible refine x_cI (sp_X2_told hq ?_ hG ?_ hGH ?_ ?_ ?_ ?_ ?_ ?_)); (first | exact hq | assumption); assumption; (focus (first | assumption | exact Rht.up (by assumption) (by omega))); omega; assumption; (first | assumption | omega); (first | assumption | omega)) | ((with_reducible refine x_cV (sp_X6_putHeight ?_ ?_ ?_ ?_)); assumption; assumption; omega) | ((with_reducible refine x_cI (sp_X6_hasHeight ?_ ?_ hGH ?_ ?_ ?_)); assumption; assumption; (focus (first | assumption | exact Rht.up (by assumption) (by omega))); omega) | ((with_reducible apply x_cI); (with_reducible apply sp_X10_cell); (first | assumption | rfl | exact (kb_st _ hq).2.1 | exact (kb_st _ hq).2.2.1 _ (by omega) (by omega) | exact (kb_st _ hq).2.2.2.1 _ (by omega) (by omega)); omega; omega; omega; omega) | ((with_reducible refine x_cI (sp_X9_distance ?_ hG ?_ ?_ ?_ ?_)); exact ⟨rfl, rfl, rfl⟩; (focus (repeat' first | assumption | exact Rst.up (by assumption) (by omega) | refine Rst.up ?_ (by omega) | refine Rwl.up ?_ (by omega) | refine Rrw.up ?_ (by omega))); omega; omega) | ((with_reducible apply x_aB); rfl; omega; omega; omega; omega) | ((with_reducible apply x_sZ); rfl; omega; omega; omega; omega) | ((with_reducible refine x_nz ?_ ?_ ?_ ?_); omega; omega; omega) | ((with_reducible refine x_nzl ?_ ?_ ?_ ?_); omega; omega; omega) | (with_reducible refine x_obs hq2 ?_) | (simp (disch := omega) only [Int.cast_ofNat_Int, Int.natCast_add, Int.toNat_natCast, i32_add, i32_sub, i32_mul, i32_neg, i32_lit, i64_add, i64_sub, i64_mul, i64_neg, i64_lit, i64_int, f5, i32_long, up_self, up_q, up_k]))
      all_goals (first | omega | exact inner)
  · rintro av μ ⟨rfl, rfl⟩
    dsimp only [bX2_levelNext, bX2_levelNext_1]
    have fl : lvs V H c 144 = lvs V H c (12 * vm V) := lvs_flat (by omega) fun j h1 h2 => by
      cases hx : lvc V H j
      · rfl
      · have := lvc_rg hG (by omega) (by omega) hx
        omega
    rw [← fl]
    rcases ok 144 (by omega) with h | h
    · have hn : lvn V (H, c) = (H, c) := by unfold lvn; simp only; rw [if_pos (by rw [h])]
      rw [h]
      rw [hn] at hQ
      (repeat' first | ((with_reducible apply x_gR); rfl; rfl) | ((with_reducible apply x_gRs hq); rfl) | ((with_reducible refine x_gI ?_ ?_); rfl; try simp only [Int.cast_ofNat_Int]) | ((with_reducible refine x_gIs hq ?_); try simp only [Int.cast_ofNat_Int]) | ((with_reducible refine x_ob ?_ ?_); rfl) | (with_reducible refine x_obs hq ?_) | (with_reducible refine x_lI ?_) | (with_reducible refine x_lJ ?_) | (with_reducible refine x_le (by omega) (by omega) (fun h => ?_) (fun h => ?_)) | (with_reducible refine x_lt (by omega) (by omega) (fun h => ?_) (fun h => ?_)) | (with_reducible refine x_eq (by omega) (by omega) (fun h => ?_) (fun h => ?_)) | (with_reducible refine x_brT ?_) | (with_reducible refine x_brF ?_) | (with_reducible refine x_rI ?_) | (with_reducible refine x_rV ?_) | (with_reducible refine x_rJ ?_) | (with_reducible refine x_rZ (by omega) ?_) | (with_reducible refine x_rO ?_) | (with_reducible refine x_thr ?_) | ((with_reducible refine x_pI ?_ ?_); rfl; try simp only [Int.cast_ofNat_Int]) | ((with_reducible refine x_pIs hq ?_); try simp only [Int.cast_ofNat_Int]) | ((with_reducible refine x_pZ ?_ (by omega) ?_); rfl; try simp only [Int.cast_ofNat_Int]) | ((with_reducible refine x_pZs hq (by omega) ?_); try simp only [Int.cast_ofNat_Int]) | (with_reducible refine x_pR ?_) | ((with_reducible apply x_aI); (first | assumption | rfl | exact (kb_st _ hq).2.1 | exact (kb_st _ hq).2.2.1 _ (by omega) (by omega) | exact (kb_st _ hq).2.2.2.1 _ (by omega) (by omega)); omega; omega; omega) | ((with_reducible apply x_sA); (first | assumption | rfl | exact (kb_st _ hq).2.1 | exact (kb_st _ hq).2.2.1 _ (by omega) (by omega) | exact (kb_st _ hq).2.2.2.1 _ (by omega) (by omega)); omega; omega; omega) | ((with_reducible apply x_aL); (first | assumption | rfl | exact (kb_st _ hq).2.1 | exact (kb_st _ hq).2.2.1 _ (by omega) (by omega) | exact (kb_st _ hq).2.2.2.1 _ (by omega) (by omega)); omega) | ((with_reducible refine x_cI (sp_X6_counts hq ?_ hG ?_ ?_ ?_ ?_)); (first | exact hq | assumption); (focus (repeat' first | assumption | exact Rst.up (by assumption) (by omega) | refine Rst.up ?_ (by omega) | refine Rwl.up ?_ (by omega) | refine Rrw.up ?_ (by omega))); omega; omega) | ((with_reducible apply x_cV); (with_reducible apply sp_X10_put); (first | assumption | rfl | exact (kb_st _ hq).2.1 | exact (kb_st _ hq).2.2.1 _ (by omega) (by omega) | exact (kb_st _ hq).2.2.2.1 _ (by omega) (by omega)); omega; omega; omega; omega) | ((with_reducible refine x_cI (sp_X0_between (k := 0) ?_ ?_ ?_)); omega; omega) | ((with_reducible refine x_cI (sp_X2_told hq ?_ hG ?_ hGH ?_ ?_ ?_ ?_ ?_ ?_)); (first | exact hq | assumption); assumption; (focus (first | assumption | exact Rht.up (by assumption) (by omega))); omega; assumption; (first | assumption | omega); (first | assumption | omega)) | ((with_reducible refine x_cV (sp_X6_putHeight ?_ ?_ ?_ ?_)); assumption; assumption; omega) | ((with_reducible refine x_cI (sp_X6_hasHeight ?_ ?_ hGH ?_ ?_ ?_)); assumption; assumption; (focus (first | assumption | exact Rht.up (by assumption) (by omega))); omega) | ((with_reducible apply x_cI); (with_reducible apply sp_X10_cell); (first | assumption | rfl | exact (kb_st _ hq).2.1 | exact (kb_st _ hq).2.2.1 _ (by omega) (by omega) | exact (kb_st _ hq).2.2.2.1 _ (by omega) (by omega)); omega; omega; omega; omega) | ((with_reducible refine x_cI (sp_X9_distance ?_ hG ?_ ?_ ?_ ?_)); exact ⟨rfl, rfl, rfl⟩; (focus (repeat' first | assumption | exact Rst.up (by assumption) (by omega) | refine Rst.up ?_ (by omega) | refine Rwl.up ?_ (by omega) | refine Rrw.up ?_ (by omega))); omega; omega) | ((with_reducible apply x_aB); rfl; omega; omega; omega; omega) | ((with_reducible apply x_sZ); rfl; omega; omega; omega; omega) | ((with_reducible refine x_nz ?_ ?_ ?_ ?_); omega; omega; omega) | ((with_reducible refine x_nzl ?_ ?_ ?_ ?_); omega; omega; omega) | (simp (disch := omega) only [Int.cast_ofNat_Int, Int.natCast_add, Int.toNat_natCast, i32_add, i32_sub, i32_mul, i32_neg, i32_lit, i64_add, i64_sub, i64_mul, i64_neg, i64_lit, i64_int, f5, i32_long, up_self, up_q, up_k]))
      all_goals (try omega)
      exact hQ I (fun _ _ _ _ => rfl) hH hcI
    · have hn : lvn V (H, c) = (putH H (lvs V H c 144).1 (hv H (lvs V H c 144).2.1 + rfk V (pq (lvs V H c 144).2.1 (lvs V H c 144).1) (lvs V H c 144).2.1), fun k => if k = (lvs V H c 144).1 then (lvs V H c 144).2.2 else c k) := by unfold lvn; simp only; rw [if_neg (by omega)]
      rw [hn] at hQ
      generalize lvs V H c 144 = p at *
      obtain ⟨t, f, w⟩ := p
      simp only at h hQ ⊢
      have pg := pq_rg (a := f) (b := t) (m := 12) (by omega) (by omega) (by omega) (by omega)
      have h5 := hM.2.2.2.2 (pq f t).toNat (by omega)
      rw [Int.toNat_of_nonneg pg.1, if_pos h.2.2.2.2.2.2.2.1] at h5
      have hxk : hv H f + rfk V ((pq f t).toNat : Int) f = hv H f + rfk V (pq f t) f := by rw [Int.toNat_of_nonneg pg.1]
      have hE' : isE V ((pq f t).toNat : Int) = true := by rw [Int.toNat_of_nonneg pg.1]; exact h.2.2.2.2.2.2.2.1
      have hne : ¬ f = t := by omega
      refine x_gR rfl rfl (x_gR rfl rfl (x_gI rfl ?_))
      rw [show I 5 ((0 : Nat) : Int) = vm V from f5]
      refine x_le (by omega) (by omega) (fun _ => ?_) (fun hh => ?_)
      · rw [show ((-1) : Int32) = i32 (-1) from rfl]
        refine x_eq (by omega) (by omega) (fun hh => ?_) (fun _ => ?_)
        · omega
        refine x_gR rfl rfl (x_cV (sp_X10_put rfl (by omega) (by omega) (by omega) (by omega) ?_))
        refine x_gR rfl rfl (x_ob rfl (x_cI (sp_X0_between (k := 0) (by omega) (by omega) ?_)))
        rw [if_neg hne, up_q (by omega), h5]
        refine x_ob rfl (x_cI (sp_X2_told (H := H) (m := vm V) hq hq2 hG (hM.keep fun p a b => up_qf (by omega)) hGH (Rht.up hH (by omega)) (by omega) hE' ?_ (by omega) ?_))
        · rw [Int.toNat_of_nonneg pg.1]
          rcases Int.lt_or_gt_of_ne hne with x | x
          · have := pq_lt x (by omega) (by omega : t < 12); omega
          · have := pq_gt x (by omega) (by omega : f < 12); omega
        rw [hxk]
        refine x_obs hq2 (x_cV (sp_X6_putHeight hq hq2 (by omega) (x_rV ?_)))
        refine hQ _ (fun p a b d => by rw [up_qf b, up_qf a, up_qf d]) (Rht_put (Rht.up hH (by omega))) fun k a b => ?_
        rw [up_q (by omega), up_q (by omega), up_at, hcI k a b]
      · omega
theorem lv0_ok {m : Nat} {M : Int} (hGH : GoodH m H) (hB : HB m H M) (hm : m ≤ 12) : GoodH m (lv0 H) ∧ HB m (lv0 H) M := by
  refine ⟨fun k h0 h1 => ?_, fun k h0 h1 h2 => ?_⟩
  · have := hGH k h0 h1
    show (hb H k = 0 ∨ hb H k = 1) ∧ (hb H k = 0 ∨ hb H k = 1) ∧ (hb H k = 1 → hb H k = 1) ∧ ((m : Int) ≤ k → hb H k = 0 ∧ hb H k = 0)
    omega
  · have := hGH k h0 (by omega)
    have h3 : hb H k = 1 := h2
    exact hB k h0 h1 (this.2.2.1 h3)
theorem lvo_ok {M : Int} (hG : Good V) (hGH : GoodH (vm V) H) (hB : HB (vm V) H M) : ∀ n : Nat, GoodH (vm V) (lvo V (lv0 H, fun _ => 0) n).1 ∧ HB (vm V) (lvo V (lv0 H, fun _ => 0) n).1 (M + n * 51678) ∧ CB (lvo V (lv0 H, fun _ => 0) n).1 (lvo V (lv0 H, fun _ => 0) n).2 (n * 99999) := by
  intro n
  have hm := hG.1
  induction n with
  | zero =>
    obtain ⟨g, b⟩ := lv0_ok hGH hB hm
    exact ⟨g, by simpa [lvo] using b, fun k _ _ _ => by show (0 : Int) ≤ 0 ∧ (0 : Int) ≤ _; omega⟩
  | succ n ih =>
    obtain ⟨g, b, c⟩ := ih
    have := lvn_ok hG g b c
    refine ⟨this.1, this.2.1.mono (by omega), ?_⟩
    have h3 := this.2.2
    intro k a b d
    have h4 : 0 ≤ (lvn V (lvo V (lv0 H, fun _ => 0) n)).2 k ∧ (lvn V (lvo V (lv0 H, fun _ => 0) n)).2 k ≤ (n : Int) * 99999 + 99999 := h3 k a b d
    simp only [lvo]
    omega
theorem sp_X2_levelOut (hq : e ∈ stLs) {q : Nat} (hq2 : q ∈ stLs) (hG : Good V) (hM : Md I V) (hW : Rwl I 5 V) (hGH : GoodH (vm V) H) (hH : Rht I q H) (hB : HB (vm V) H 1000000000)
    (hQ : ∀ I' : IM, (∀ p, p ≠ q + 3 → p ≠ q + 4 → p ≠ 199 → I' p = I p) → Rht I' q (lvl V H) → Q (.inl none) (ME e I' J)) : SX2_levelOut [.ref 198, .ref q] (ME e I J) Q := by
  refine x_in (Nat.le_of_ble_eq_true rfl) ?_
  dsimp only [bX2_levelOut, bX2_levelOut_0]
  have hm := hG.1
  have rg := st_rg hq2
  have k2 := (kb_st q hq2).2.2.1 2 (by omega) (by omega)
  have k3 := (kb_st q hq2).2.2.1 3 (by omega) (by omega)
  rw [show (0 : Int32) = i32 0 from rfl]
  refine x_gR rfl rfl (x_cV (sp_X10_fill (n := 12) rfl (by omega) ?_))
  refine x_gRs hq2 rfl (x_gRs hq2 rfl (x_cV (sp_X10_copyRow (n2 := 12) k3 k2 (by omega) (by omega) ?_)))
  refine x_for 12 (fun i av μ => ∃ I' : IM, av = [.ref 198, .ref q, .int (i32 i)] ∧ μ = ME e I' J ∧ (∀ p, p ≠ q + 3 → p ≠ q + 4 → p ≠ 199 → I' p = I p) ∧ Rht I' q (lvo V (lv0 H, fun _ => 0) i).1 ∧ ∀ k : Int, 0 ≤ k → k < 12 → I' 199 k = (lvo V (lv0 H, fun _ => 0) i).2 k) ?_ ?_ (Nat.zero_le _) ⟨_, by simp [Int.cast_ofNat_Int, Int.natCast_add, Int.toNat_natCast, i32_add, i32_sub, i32_mul, i32_neg, i32_lit, i64_add, i64_sub, i64_mul, i64_neg, i64_lit, i64_int], rfl, ?_, ?_, ?_⟩
  · rintro i av μ hi ⟨I', rfl, rfl, hf, hH', hc'⟩ hJ
    dsimp only [bX2_levelOut, bX2_levelOut_1]
    obtain ⟨g, b, c⟩ := lvo_ok hG hGH hB i
    rw [show (12 : Int32) = i32 12 from rfl]
    refine x_le (by omega) (by omega) (fun h => ?_) (fun h => ?_)
    · omega
    refine x_ob rfl (x_cV (sp_X2_levelNext hq hq2 hG (hM.keep fun p a b => hf p (by omega) (by omega) (by omega)) (hW.keep fun d h => hf _ (by omega) (by omega) (by omega)) g hH' (b.mono (by omega)) hc' (fun k a b d => by have := c k a b d; omega) ?_))
    intro I2 hf2 hH2 hc2
    exact hJ _ _ ⟨I2, by simp only [Int.cast_ofNat_Int, Int.natCast_add, Int.toNat_natCast, i32_add, i32_sub, i32_mul, i32_neg, i32_lit, i64_add, i64_sub, i64_mul, i64_neg, i64_lit, i64_int], rfl, fun p a b d => by rw [hf2 p a b d]; exact hf p a b d, hH2, hc2⟩
  · rintro av μ ⟨I', rfl, rfl, hf, hH', hc'⟩
    dsimp only [bX2_levelOut, bX2_levelOut_1]
    rw [show (12 : Int32) = i32 12 from rfl]
    refine x_le (by omega) (by omega) (fun h => ?_) (fun h => ?_)
    · exact x_rV (hQ _ hf hH')
    · omega
  · intro p a b d
    rw [rowF_ne a, rowF_ne d]
  · intro k h0 h1
    have f := hH k h0 h1
    have g := hGH k h0 h1
    have e2 : (rowF I 199 fun k => if 0 ≤ k ∧ k < 12 then 0 else I 199 k) (q + 2) = I (q + 2) := rowF_ne (by omega)
    have e4 : (rowF I 199 fun k => if 0 ≤ k ∧ k < 12 then 0 else I 199 k) (q + 4) = I (q + 4) := rowF_ne (by omega)
    refine ⟨?_, ?_, ?_⟩
    · rw [rowF_ne (by omega), rowF_ne (by omega)]; exact f.1
    · rw [rowF_self, if_pos ⟨h0, h1⟩, rowF_ne (by omega)]; exact f.1
    · intro h
      have h3 : hb H k = 1 := h
      rw [rowF_ne (by omega), rowF_ne (by omega)]
      exact f.2.2 (g.2.2.1 h3)
  · intro k h0 h1
    rw [rowF_ne (by omega), rowF_self, if_pos ⟨h0, h1⟩]
    rfl
end H60
