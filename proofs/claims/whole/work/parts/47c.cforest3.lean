section CF54
variable {e : Nat} {I J : IM} {Q : Post} {V : Vw} {s v a b x y : Int}
/-- the class's forest behind grow -/
def Gw (I : IM) (V : Vw) : Prop :=
  Rf I (forest V) ∧ I 185 1 = ct (fT (forest V)) 144 ∧ ∀ k : Int, 0 ≤ k → k < 144 → isE V k = true → I 187 (rkI V k) = if fT (forest V) k = true then 1 else 0
theorem ct_upd {p q : Int → Bool} {c : Int} {n : Nat} (h0 : 0 ≤ c) (h1 : c < n) (hp : p c = false) (hq : ∀ j : Int, q j = if j = c then true else p j) : ct q n = ct p n + 1 := by
  induction n with
  | zero => omega
  | succ n ih =>
    simp only [ct]
    by_cases hn : c = n
    · subst hn
      rw [hq, if_pos rfl, hp]
      have : ct q n = ct p n := ct_congr n fun i a b => by rw [hq, if_neg (by omega)]
      rw [this]; simp
    · have e := hq n
      rw [if_neg (fun q => hn q.symm)] at e
      rw [ih (by omega), e]; omega
theorem Fr2 {I I' : IM} {q : Nat} (h : ∀ q, q < 185 ∨ 190 < q → I' q = I q) (hM : Md I V) : Md I' V := by
  unfold Md M1 at *
  rw [h 171 (by omega), h 172 (by omega), h 173 (by omega), h 174 (by omega), h 175 (by omega), h 176 (by omega), h 177 (by omega), h 178 (by omega), h 179 (by omega), h 180 (by omega), h 181 (by omega), h 182 (by omega), h 183 (by omega)]
  exact hM
theorem so_inj (V : Vw) {t i : Nat} (ht : t < nE V) (hi : i < nE V) (h : so V t = so V i) : t = i := by
  rcases Nat.lt_trichotomy t i with h1 | h1 | h1
  · have := (so_ok V).1 (t : Int) (i : Int) (by omega) (by omega) (by omega)
    rw [h] at this; unfold lx at this; omega
  · exact h1
  · have := (so_ok V).1 (i : Int) (t : Int) (by omega) (by omega) (by omega)
    rw [h] at this; unfold lx at this; omega
theorem gro_T (V : Vw) : ∀ (i : Nat) (j : Int), fT (gro V i) j = true → ∃ t : Nat, t < i ∧ so V t = j := by
  intro i
  induction i with
  | zero => intro j h; exact absurd h (by simp [gro, fT, fo0])
  | succ i ih =>
    intro j h
    simp only [gro] at h
    unfold stp at h
    split at h
    · obtain ⟨t, h1, h2⟩ := ih j h; exact ⟨t, by omega, h2⟩
    · rw [fT_take] at h
      split at h
      · rename_i hj; exact ⟨i, by omega, hj.symm⟩
      · obtain ⟨t, h1, h2⟩ := ih j h; exact ⟨t, by omega, h2⟩
theorem sp_X1_grow (hG : Good V) (hM : Md I V) (hdi : ∀ x, mark12 x → I 190 (12 * x + x) = 0)
    (hQ : ∀ I' : IM, (∀ q, q < 185 ∨ 190 < q → I' q = I q) → Gw I' V → (∀ x, mark12 x → I' 190 (12 * x + x) = 0) → Q (.inl none) (ME e I' J)) : SX1_grow [.ref 185] (ME e I J) Q := by
  refine x_in (Nat.le_of_ble_eq_true rfl) ?_
  dsimp only [bX1_grow, bX1_grow_0]
  have h40 := nE40 hG
  (repeat' first | ((with_reducible apply x_gR); rfl; rfl) | ((with_reducible apply x_gRs hq); rfl) | ((with_reducible refine x_gI ?_ ?_); rfl; try simp only [Int.cast_ofNat_Int]) | ((with_reducible refine x_gIs hq ?_); try simp only [Int.cast_ofNat_Int]) | ((with_reducible refine x_ob ?_ ?_); rfl) | (with_reducible refine x_obs hq ?_) | (with_reducible refine x_lI ?_) | (with_reducible refine x_lJ ?_) | (with_reducible refine x_le (by omega) (by omega) (fun h => ?_) (fun h => ?_)) | (with_reducible refine x_lt (by omega) (by omega) (fun h => ?_) (fun h => ?_)) | (with_reducible refine x_eq (by omega) (by omega) (fun h => ?_) (fun h => ?_)) | (with_reducible refine x_brT ?_) | (with_reducible refine x_brF ?_) | (with_reducible refine x_rI ?_) | (with_reducible refine x_rV ?_) | (with_reducible refine x_rJ ?_) | (with_reducible refine x_rZ (by omega) ?_) | (with_reducible refine x_rO ?_) | (with_reducible refine x_thr ?_) | ((with_reducible refine x_pI ?_ ?_); rfl; try simp only [Int.cast_ofNat_Int]) | ((with_reducible refine x_pIs hq ?_); try simp only [Int.cast_ofNat_Int]) | ((with_reducible refine x_pZ ?_ (by omega) ?_); rfl; try simp only [Int.cast_ofNat_Int]) | ((with_reducible refine x_pZs hq (by omega) ?_); try simp only [Int.cast_ofNat_Int]) | (with_reducible refine x_pR ?_) | ((with_reducible apply x_aI); (first | assumption | rfl | exact (kb_st _ hq).2.1 | exact (kb_st _ hq).2.2.1 _ (by omega) (by omega) | exact (kb_st _ hq).2.2.2.1 _ (by omega) (by omega)); omega; omega; omega) | ((with_reducible apply x_sA); (first | assumption | rfl | exact (kb_st _ hq).2.1 | exact (kb_st _ hq).2.2.1 _ (by omega) (by omega) | exact (kb_st _ hq).2.2.2.1 _ (by omega) (by omega)); omega; omega; omega) | ((with_reducible apply x_aL); (first | assumption | rfl | exact (kb_st _ hq).2.1 | exact (kb_st _ hq).2.2.1 _ (by omega) (by omega) | exact (kb_st _ hq).2.2.2.1 _ (by omega) (by omega)); omega) | ((with_reducible apply x_aB); rfl; omega; omega; omega; omega) | ((with_reducible apply x_sZ); rfl; omega; omega; omega; omega) | ((with_reducible refine x_nz ?_ ?_ ?_ ?_); omega; omega; omega) | ((with_reducible refine x_nzl ?_ ?_ ?_ ?_); omega; omega; omega) | (simp (disch := omega) only [Int.cast_ofNat_Int, Int.natCast_add, Int.toNat_natCast, i32_add, i32_sub, i32_mul, i32_neg, i32_lit, i64_add, i64_sub, i64_mul, i64_neg, i64_lit, i64_int, i32_long, up_self, up_q, up_k]))
  refine x_for 12 (fun i av μ => ∃ I' : IM, av = [.ref 185, .int (i32 i)] ∧ μ = ME e I' J ∧ (∀ q, q ≠ 185 → q ≠ 188 → I' q = I q) ∧ I' 185 1 = 0 ∧ ∀ x : Int, 0 ≤ x → x < i → I' 188 x = x) ?_ ?_ (Nat.zero_le _) ⟨_, (by simp only [Int.cast_ofNat_Int, Int.natCast_add, Int.toNat_natCast, i32_add, i32_sub, i32_mul, i32_neg, i32_lit, i64_add, i64_sub, i64_mul, i64_neg, i64_lit, i64_int]), rfl, fun q a _ => up_ne_q a, up_self, fun x a b => by omega⟩
  · rintro i av μ hi ⟨I', rfl, rfl, hf, hz, hs⟩ hJ
    dsimp only [bX1_grow, bX1_grow_1]
    (repeat' first | ((with_reducible apply x_gR); rfl; rfl) | ((with_reducible apply x_gRs hq); rfl) | ((with_reducible refine x_gI ?_ ?_); rfl; try simp only [Int.cast_ofNat_Int]) | ((with_reducible refine x_gIs hq ?_); try simp only [Int.cast_ofNat_Int]) | ((with_reducible refine x_ob ?_ ?_); rfl) | (with_reducible refine x_obs hq ?_) | (with_reducible refine x_lI ?_) | (with_reducible refine x_lJ ?_) | (with_reducible refine x_le (by omega) (by omega) (fun h => ?_) (fun h => ?_)) | (with_reducible refine x_lt (by omega) (by omega) (fun h => ?_) (fun h => ?_)) | (with_reducible refine x_eq (by omega) (by omega) (fun h => ?_) (fun h => ?_)) | (with_reducible refine x_brT ?_) | (with_reducible refine x_brF ?_) | (with_reducible refine x_rI ?_) | (with_reducible refine x_rV ?_) | (with_reducible refine x_rJ ?_) | (with_reducible refine x_rZ (by omega) ?_) | (with_reducible refine x_rO ?_) | (with_reducible refine x_thr ?_) | ((with_reducible refine x_pI ?_ ?_); rfl; try simp only [Int.cast_ofNat_Int]) | ((with_reducible refine x_pIs hq ?_); try simp only [Int.cast_ofNat_Int]) | ((with_reducible refine x_pZ ?_ (by omega) ?_); rfl; try simp only [Int.cast_ofNat_Int]) | ((with_reducible refine x_pZs hq (by omega) ?_); try simp only [Int.cast_ofNat_Int]) | (with_reducible refine x_pR ?_) | ((with_reducible apply x_aI); (first | assumption | rfl | exact (kb_st _ hq).2.1 | exact (kb_st _ hq).2.2.1 _ (by omega) (by omega) | exact (kb_st _ hq).2.2.2.1 _ (by omega) (by omega)); omega; omega; omega) | ((with_reducible apply x_sA); (first | assumption | rfl | exact (kb_st _ hq).2.1 | exact (kb_st _ hq).2.2.1 _ (by omega) (by omega) | exact (kb_st _ hq).2.2.2.1 _ (by omega) (by omega)); omega; omega; omega) | ((with_reducible apply x_aL); (first | assumption | rfl | exact (kb_st _ hq).2.1 | exact (kb_st _ hq).2.2.1 _ (by omega) (by omega) | exact (kb_st _ hq).2.2.2.1 _ (by omega) (by omega)); omega) | ((with_reducible apply x_cV); (with_reducible apply sp_X10_put); (first | assumption | rfl | exact (kb_st _ hq).2.1 | exact (kb_st _ hq).2.2.1 _ (by omega) (by omega) | exact (kb_st _ hq).2.2.2.1 _ (by omega) (by omega)); omega; omega; omega; omega) | ((with_reducible apply x_aB); rfl; omega; omega; omega; omega) | ((with_reducible apply x_sZ); rfl; omega; omega; omega; omega) | ((with_reducible refine x_nz ?_ ?_ ?_ ?_); omega; omega; omega) | ((with_reducible refine x_nzl ?_ ?_ ?_ ?_); omega; omega; omega) | (simp (disch := omega) only [Int.cast_ofNat_Int, Int.natCast_add, Int.toNat_natCast, i32_add, i32_sub, i32_mul, i32_neg, i32_lit, i64_add, i64_sub, i64_mul, i64_neg, i64_lit, i64_int, i32_long, up_self, up_q, up_k]))
    all_goals (try omega)
    apply hJ
    refine ⟨_, (by simp only [Int.cast_ofNat_Int, Int.natCast_add, Int.toNat_natCast, i32_add, i32_sub, i32_mul, i32_neg, i32_lit, i64_add, i64_sub, i64_mul, i64_neg, i64_lit, i64_int]), rfl, fun q a b => by rw [up_ne_q b, hf q a b], by rw [up_ne_q (by omega)]; exact hz, fun x a b => ?_⟩
    by_cases hx : x = (i : Int)
    · subst hx; rw [up_self]
    · rw [up_k hx]; exact hs x a (by omega)
  · rintro av μ ⟨I1, rfl, rfl, hf, hz, hs⟩
    dsimp only [bX1_grow, bX1_grow_1]
    have N1 : Md I1 V := Fr2 (I := I) (q := 0) (fun q h => hf q (by omega) (by omega)) hM
    (repeat' first | ((with_reducible apply x_gR); rfl; rfl) | ((with_reducible apply x_gRs hq); rfl) | ((with_reducible refine x_gI ?_ ?_); rfl; try simp only [Int.cast_ofNat_Int]) | ((with_reducible refine x_gIs hq ?_); try simp only [Int.cast_ofNat_Int]) | ((with_reducible refine x_ob ?_ ?_); rfl) | (with_reducible refine x_obs hq ?_) | (with_reducible refine x_lI ?_) | (with_reducible refine x_lJ ?_) | (with_reducible refine x_le (by omega) (by omega) (fun h => ?_) (fun h => ?_)) | (with_reducible refine x_lt (by omega) (by omega) (fun h => ?_) (fun h => ?_)) | (with_reducible refine x_eq (by omega) (by omega) (fun h => ?_) (fun h => ?_)) | (with_reducible refine x_brT ?_) | (with_reducible refine x_brF ?_) | (with_reducible refine x_rI ?_) | (with_reducible refine x_rV ?_) | (with_reducible refine x_rJ ?_) | (with_reducible refine x_rZ (by omega) ?_) | (with_reducible refine x_rO ?_) | (with_reducible refine x_thr ?_) | ((with_reducible refine x_pI ?_ ?_); rfl; try simp only [Int.cast_ofNat_Int]) | ((with_reducible refine x_pIs hq ?_); try simp only [Int.cast_ofNat_Int]) | ((with_reducible refine x_pZ ?_ (by omega) ?_); rfl; try simp only [Int.cast_ofNat_Int]) | ((with_reducible refine x_pZs hq (by omega) ?_); try simp only [Int.cast_ofNat_Int]) | (with_reducible refine x_pR ?_) | ((with_reducible apply x_aI); (first | assumption | rfl | exact (kb_st _ hq).2.1 | exact (kb_st _ hq).2.2.1 _ (by omega) (by omega) | exact (kb_st _ hq).2.2.2.1 _ (by omega) (by omega)); omega; omega; omega) | ((with_reducible apply x_sA); (first | assumption | rfl | exact (kb_st _ hq).2.1 | exact (kb_st _ hq).2.2.1 _ (by omega) (by omega) | exact (kb_st _ hq).2.2.2.1 _ (by omega) (by omega)); omega; omega; omega) | ((with_reducible apply x_aL); (first | assumption | rfl | exact (kb_st _ hq).2.1 | exact (kb_st _ hq).2.2.1 _ (by omega) (by omega) | exact (kb_st _ hq).2.2.2.1 _ (by omega) (by omega)); omega) | ((with_reducible apply x_aB); rfl; omega; omega; omega; omega) | ((with_reducible apply x_sZ); rfl; omega; omega; omega; omega) | ((with_reducible refine x_nz ?_ ?_ ?_ ?_); omega; omega; omega) | ((with_reducible refine x_nzl ?_ ?_ ?_ ?_); omega; omega; omega) | (simp (disch := omega) only [Int.cast_ofNat_Int, Int.natCast_add, Int.toNat_natCast, i32_add, i32_sub, i32_mul, i32_neg, i32_lit, i64_add, i64_sub, i64_mul, i64_neg, i64_lit, i64_int, i32_long, up_self, up_q, up_k]))
    all_goals (try omega)
    refine x_cV (sp_X1_sortEdges hG N1 fun I2 f2 s2 => ?_)
    have N2 : Md I2 V := Fr2 (I := I1) (q := 0) (fun q h => f2 q (by omega)) N1
    have R2 : Rf I2 fo0 := by
      refine ⟨fun x hx => by rw [f2 188 (by omega)]; exact hs x hx.1 (by have := hx.2; omega), fun x y hx hy hp => ?_, fun x y hx hy hp hxy => absurd hp hxy⟩
      have hp : x = y := hp
      subst hp
      rw [f2 190 (by omega), hf 190 (by omega) (by omega)]
      exact hdi x hx
    (repeat' first | ((with_reducible apply x_gR); rfl; rfl) | ((with_reducible apply x_gRs hq); rfl) | ((with_reducible refine x_gI ?_ ?_); rfl; try simp only [Int.cast_ofNat_Int]) | ((with_reducible refine x_gIs hq ?_); try simp only [Int.cast_ofNat_Int]) | ((with_reducible refine x_ob ?_ ?_); rfl) | (with_reducible refine x_obs hq ?_) | (with_reducible refine x_lI ?_) | (with_reducible refine x_lJ ?_) | (with_reducible refine x_le (by omega) (by omega) (fun h => ?_) (fun h => ?_)) | (with_reducible refine x_lt (by omega) (by omega) (fun h => ?_) (fun h => ?_)) | (with_reducible refine x_eq (by omega) (by omega) (fun h => ?_) (fun h => ?_)) | (with_reducible refine x_brT ?_) | (with_reducible refine x_brF ?_) | (with_reducible refine x_rI ?_) | (with_reducible refine x_rV ?_) | (with_reducible refine x_rJ ?_) | (with_reducible refine x_rZ (by omega) ?_) | (with_reducible refine x_rO ?_) | (with_reducible refine x_thr ?_) | ((with_reducible refine x_pI ?_ ?_); rfl; try simp only [Int.cast_ofNat_Int]) | ((with_reducible refine x_pIs hq ?_); try simp only [Int.cast_ofNat_Int]) | ((with_reducible refine x_pZ ?_ (by omega) ?_); rfl; try simp only [Int.cast_ofNat_Int]) | ((with_reducible refine x_pZs hq (by omega) ?_); try simp only [Int.cast_ofNat_Int]) | (with_reducible refine x_pR ?_) | ((with_reducible apply x_aI); (first | assumption | rfl | exact (kb_st _ hq).2.1 | exact (kb_st _ hq).2.2.1 _ (by omega) (by omega) | exact (kb_st _ hq).2.2.2.1 _ (by omega) (by omega)); omega; omega; omega) | ((with_reducible apply x_sA); (first | assumption | rfl | exact (kb_st _ hq).2.1 | exact (kb_st _ hq).2.2.1 _ (by omega) (by omega) | exact (kb_st _ hq).2.2.2.1 _ (by omega) (by omega)); omega; omega; omega) | ((with_reducible apply x_aL); (first | assumption | rfl | exact (kb_st _ hq).2.1 | exact (kb_st _ hq).2.2.1 _ (by omega) (by omega) | exact (kb_st _ hq).2.2.2.1 _ (by omega) (by omega)); omega) | ((with_reducible apply x_aB); rfl; omega; omega; omega; omega) | ((with_reducible apply x_sZ); rfl; omega; omega; omega; omega) | ((with_reducible refine x_nz ?_ ?_ ?_ ?_); omega; omega; omega) | ((with_reducible refine x_nzl ?_ ?_ ?_ ?_); omega; omega; omega) | (simp (disch := omega) only [Int.cast_ofNat_Int, Int.natCast_add, Int.toNat_natCast, i32_add, i32_sub, i32_mul, i32_neg, i32_lit, i64_add, i64_sub, i64_mul, i64_neg, i64_lit, i64_int, i32_long, up_self, up_q, up_k]))
    refine x_for (nE V) (fun i av μ => ∃ I' : IM, av = [.ref 185, .int (i32 i)] ∧ μ = ME e I' J ∧ (∀ q, q < 185 ∨ 190 < q → I' q = I q) ∧ I' 186 = I2 186 ∧ Rf I' (gro V i) ∧ I' 185 1 = ct (fT (gro V i)) 144 ∧ ∀ t : Nat, t < i → I' 187 (rkI V (so V t)) = if fT (gro V i) (so V t) = true then 1 else 0) ?_ ?_ (Nat.zero_le _) ⟨I2, (by simp only [Int.cast_ofNat_Int, Int.natCast_add, Int.toNat_natCast, i32_add, i32_sub, i32_mul, i32_neg, i32_lit, i64_add, i64_sub, i64_mul, i64_neg, i64_lit, i64_int]), rfl, fun q h => by rw [f2 q (by omega), hf q (by omega) (by omega)], rfl, R2, ?_, fun t h => by omega⟩
    · rintro i av μ hi ⟨I', rfl, rfl, hf, h6, hR, hn, ht⟩ hJ
      dsimp only [bX1_grow, bX1_grow_2]
      have hM' : Md I' V := Fr2 (I := I) (q := 0) hf hM
      have so1 := (so_ok V).2.1 (i : Int) (by omega) (by omega)
      obtain ⟨d, hT⟩ := gro_TI hG i (by omega)
      obtain ⟨k, hk⟩ : ∃ k, k = so V i := ⟨_, rfl⟩
      rw [← hk] at so1
      have rr := rkI_rg hG so1.1 (by omega) so1.2.2
      have ed := gd_E hG (isE_iff.mp so1.2.2)
      have hm := hG.1
      have g := hM'.at so1.1 (by omega) so1.2.2
      have g1 := g.1
      have g2 := g.2.1
      have h3 := hM'.2.2.1
      have ho : I' 186 (i : Int) = rkI V k := by rw [h6, s2 i (by omega) (by omega), hk]
      have ma : mark12 (k / 12) := ⟨by omega, by omega⟩
      have mb : mark12 (k % 12) := ⟨by omega, by omega⟩
      have p1 := hR.1 _ ma
      have p2 := hR.1 _ mb
      have hpr : ∀ x, mark12 x → mark12 (I' 188 x) := fun x hx => by rw [hR.1 x hx]; exact (hT.1 x hx).2.2
      have hnt : fT (gro V i) k = false := by
        cases h : fT (gro V i) k
        · rfl
        · obtain ⟨t, h1, h2⟩ := gro_T V i k h
          rw [hk] at h2
          have := so_inj V (by omega) hi h2
          omega
      have hst : ∀ t : Nat, t < i → rkI V (so V t) ≠ rkI V k := by
        intro t ht q
        have g := (so_ok V).2.1 (t : Int) (by omega) (by omega)
        have := rkI_inj g.1 so1.1 g.2.2 so1.2.2 q
        rw [hk] at this
        have := so_inj V (by omega) hi this
        omega
      by_cases hj : fP (gro V i) (k / 12) = fP (gro V i) (k % 12)
      · have hg : gro V (i + 1) = gro V i := by simp only [gro]; rw [← hk]; unfold stp; rw [if_pos hj]
        (repeat' first | ((with_reducible apply x_gR); rfl; rfl) | ((with_reducible apply x_gRs hq); rfl) | ((with_reducible refine x_gI ?_ ?_); rfl; try simp only [Int.cast_ofNat_Int]) | ((with_reducible refine x_gIs hq ?_); try simp only [Int.cast_ofNat_Int]) | ((with_reducible refine x_ob ?_ ?_); rfl) | (with_reducible refine x_obs hq ?_) | (with_reducible refine x_lI ?_) | (with_reducible refine x_lJ ?_) | (with_reducible refine x_le (by omega) (by omega) (fun h => ?_) (fun h => ?_)) | (with_reducible refine x_lt (by omega) (by omega) (fun h => ?_) (fun h => ?_)) | (with_reducible refine x_eq (by omega) (by omega) (fun h => ?_) (fun h => ?_)) | (with_reducible refine x_brT ?_) | (with_reducible refine x_brF ?_) | (with_reducible refine x_rI ?_) | (with_reducible refine x_rV ?_) | (with_reducible refine x_rJ ?_) | (with_reducible refine x_rZ (by omega) ?_) | (with_reducible refine x_rO ?_) | (with_reducible refine x_thr ?_) | ((with_reducible refine x_pI ?_ ?_); rfl; try simp only [Int.cast_ofNat_Int]) | ((with_reducible refine x_pIs hq ?_); try simp only [Int.cast_ofNat_Int]) | ((with_reducible refine x_pZ ?_ (by omega) ?_); rfl; try simp only [Int.cast_ofNat_Int]) | ((with_reducible refine x_pZs hq (by omega) ?_); try simp only [Int.cast_ofNat_Int]) | (with_reducible refine x_pR ?_) | ((with_reducible apply x_aI); (first | assumption | rfl | exact (kb_st _ hq).2.1 | exact (kb_st _ hq).2.2.1 _ (by omega) (by omega) | exact (kb_st _ hq).2.2.2.1 _ (by omega) (by omega)); omega; omega; omega) | ((with_reducible apply x_sA); (first | assumption | rfl | exact (kb_st _ hq).2.1 | exact (kb_st _ hq).2.2.1 _ (by omega) (by omega) | exact (kb_st _ hq).2.2.2.1 _ (by omega) (by omega)); omega; omega; omega) | ((with_reducible apply x_aL); (first | assumption | rfl | exact (kb_st _ hq).2.1 | exact (kb_st _ hq).2.2.1 _ (by omega) (by omega) | exact (kb_st _ hq).2.2.2.1 _ (by omega) (by omega)); omega) | ((with_reducible apply x_cV); (with_reducible apply sp_X10_put); (first | assumption | rfl | exact (kb_st _ hq).2.1 | exact (kb_st _ hq).2.2.1 _ (by omega) (by omega) | exact (kb_st _ hq).2.2.2.1 _ (by omega) (by omega)); omega; omega; omega; omega) | ((with_reducible apply x_cI); (with_reducible apply sp_X10_cell); (first | assumption | rfl | exact (kb_st _ hq).2.1 | exact (kb_st _ hq).2.2.1 _ (by omega) (by omega) | exact (kb_st _ hq).2.2.2.1 _ (by omega) (by omega)); omega; omega; omega; omega) | ((with_reducible refine x_cI (sp_X1_joined ?_ ?_ ?_ ?_)); (first | assumption | exact ⟨by omega, by omega⟩); (first | assumption | exact ⟨by omega, by omega⟩); assumption) | ((with_reducible apply x_aB); rfl; omega; omega; omega; omega) | ((with_reducible apply x_sZ); rfl; omega; omega; omega; omega) | ((with_reducible refine x_nz ?_ ?_ ?_ ?_); omega; omega; omega) | ((with_reducible refine x_nzl ?_ ?_ ?_ ?_); omega; omega; omega) | (simp (disch := omega) only [Int.cast_ofNat_Int, Int.natCast_add, Int.toNat_natCast, i32_add, i32_sub, i32_mul, i32_neg, i32_lit, i64_add, i64_sub, i64_mul, i64_neg, i64_lit, i64_int, h3, ho, g1, g2, p1, p2, hj, eq_self, if_true, i32_long, up_self, up_q, up_k]))
        all_goals (try omega)
        apply hJ
        refine ⟨_, (by simp only [Int.cast_ofNat_Int, Int.natCast_add, Int.toNat_natCast, i32_add, i32_sub, i32_mul, i32_neg, i32_lit, i64_add, i64_sub, i64_mul, i64_neg, i64_lit, i64_int]), rfl, fun q h => by rw [up_ne_q (by omega), hf q h], by rw [up_ne_q (by omega)]; exact h6, ?_, by rw [up_ne_q (by omega), hg]; exact hn, fun t h => ?_⟩
        · rw [hg]; unfold Rf at *; rw [up_ne_q (by omega), up_ne_q (by omega), up_ne_q (by omega)]; exact hR
        · rw [hg]
          by_cases hti : t = i
          · subst hti
            rw [← hk, up_self, hnt]; rfl
          · rw [up_k (hst t (by omega))]; exact ht t (by omega)
      · have hg : gro V (i + 1) = take V k (gro V i) := by simp only [gro]; rw [← hk]; unfold stp; rw [if_neg hj]
        (repeat' first | ((with_reducible apply x_gR); rfl; rfl) | ((with_reducible apply x_gRs hq); rfl) | ((with_reducible refine x_gI ?_ ?_); rfl; try simp only [Int.cast_ofNat_Int]) | ((with_reducible refine x_gIs hq ?_); try simp only [Int.cast_ofNat_Int]) | ((with_reducible refine x_ob ?_ ?_); rfl) | (with_reducible refine x_obs hq ?_) | (with_reducible refine x_lI ?_) | (with_reducible refine x_lJ ?_) | (with_reducible refine x_le (by omega) (by omega) (fun h => ?_) (fun h => ?_)) | (with_reducible refine x_lt (by omega) (by omega) (fun h => ?_) (fun h => ?_)) | (with_reducible refine x_eq (by omega) (by omega) (fun h => ?_) (fun h => ?_)) | (with_reducible refine x_brT ?_) | (with_reducible refine x_brF ?_) | (with_reducible refine x_rI ?_) | (with_reducible refine x_rV ?_) | (with_reducible refine x_rJ ?_) | (with_reducible refine x_rZ (by omega) ?_) | (with_reducible refine x_rO ?_) | (with_reducible refine x_thr ?_) | ((with_reducible refine x_pI ?_ ?_); rfl; try simp only [Int.cast_ofNat_Int]) | ((with_reducible refine x_pIs hq ?_); try simp only [Int.cast_ofNat_Int]) | ((with_reducible refine x_pZ ?_ (by omega) ?_); rfl; try simp only [Int.cast_ofNat_Int]) | ((with_reducible refine x_pZs hq (by omega) ?_); try simp only [Int.cast_ofNat_Int]) | (with_reducible refine x_pR ?_) | ((with_reducible apply x_aI); (first | assumption | rfl | exact (kb_st _ hq).2.1 | exact (kb_st _ hq).2.2.1 _ (by omega) (by omega) | exact (kb_st _ hq).2.2.2.1 _ (by omega) (by omega)); omega; omega; omega) | ((with_reducible apply x_sA); (first | assumption | rfl | exact (kb_st _ hq).2.1 | exact (kb_st _ hq).2.2.1 _ (by omega) (by omega) | exact (kb_st _ hq).2.2.2.1 _ (by omega) (by omega)); omega; omega; omega) | ((with_reducible apply x_aL); (first | assumption | rfl | exact (kb_st _ hq).2.1 | exact (kb_st _ hq).2.2.1 _ (by omega) (by omega) | exact (kb_st _ hq).2.2.2.1 _ (by omega) (by omega)); omega) | ((with_reducible apply x_cV); (with_reducible apply sp_X10_put); (first | assumption | rfl | exact (kb_st _ hq).2.1 | exact (kb_st _ hq).2.2.1 _ (by omega) (by omega) | exact (kb_st _ hq).2.2.2.1 _ (by omega) (by omega)); omega; omega; omega; omega) | ((with_reducible apply x_cI); (with_reducible apply sp_X10_cell); (first | assumption | rfl | exact (kb_st _ hq).2.1 | exact (kb_st _ hq).2.2.1 _ (by omega) (by omega) | exact (kb_st _ hq).2.2.2.1 _ (by omega) (by omega)); omega; omega; omega; omega) | ((with_reducible refine x_cI (sp_X1_joined ?_ ?_ ?_ ?_)); (first | assumption | exact ⟨by omega, by omega⟩); (first | assumption | exact ⟨by omega, by omega⟩); assumption) | ((with_reducible apply x_aB); rfl; omega; omega; omega; omega) | ((with_reducible apply x_sZ); rfl; omega; omega; omega; omega) | ((with_reducible refine x_nz ?_ ?_ ?_ ?_); omega; omega; omega) | ((with_reducible refine x_nzl ?_ ?_ ?_ ?_); omega; omega; omega) | (simp (disch := omega) only [Int.cast_ofNat_Int, Int.natCast_add, Int.toNat_natCast, i32_add, i32_sub, i32_mul, i32_neg, i32_lit, i64_add, i64_sub, i64_mul, i64_neg, i64_lit, i64_int, h3, ho, g1, g2, p1, p2, hj, eq_self, if_true, if_false, i32_long, up_self, up_q, up_k]))
        all_goals (try omega)
        have hM2 : Md (up I' 187 (rkI V k) 1) V := Fr2 (I := I') (q := 0) (fun q h => up_ne_q (by omega)) hM'
        have hR2 : Rf (up I' 187 (rkI V k) 1) (gro V i) := by unfold Rf at *; rw [up_ne_q (by omega), up_ne_q (by omega), up_ne_q (by omega)]; exact hR
        refine x_cV (sp_X1_take hG hM2 hT hR2 so1.1 (by omega) so1.2.2 hj fun I3 f3 f4 f5 f6 => ?_)
        dsimp only
        apply hJ
        refine ⟨I3, (by simp only [Int.cast_ofNat_Int, Int.natCast_add, Int.toNat_natCast, i32_add, i32_sub, i32_mul, i32_neg, i32_lit, i64_add, i64_sub, i64_mul, i64_neg, i64_lit, i64_int]), rfl, fun q h => by rw [f3 q (by omega) (by omega) (by omega) (by omega), up_ne_q (by omega), hf q h], by rw [f3 186 (by omega) (by omega) (by omega) (by omega), up_ne_q (by omega)]; exact h6, by rw [hg]; exact f6, ?_, fun t h => ?_⟩
        · rw [f5, up_ne_q (by omega), hn, hg, ct_upd so1.1 (by omega) hnt (q := fT (take V k (gro V i))) (fun j => fT_take V k _ j)]
          omega
        · rw [f3 187 (by omega) (by omega) (by omega) (by omega), hg, fT_take]
          by_cases hti : t = i
          · subst hti
            rw [← hk, up_self, if_pos rfl]; rfl
          · have e : (if so V t = k then true else fT (gro V i) (so V t)) = fT (gro V i) (so V t) := if_neg (fun q => hst t (by omega) (by rw [q]))
            rw [up_k (hst t (by omega)), e]
            exact ht t (by omega)
    · rintro av μ ⟨I', rfl, rfl, hf, h6, hR, hn, ht⟩
      dsimp only [bX1_grow, bX1_grow_2]
      have hM' : Md I' V := Fr2 (I := I) (q := 0) hf hM
      have h3 := hM'.2.2.1
      obtain ⟨d, hT⟩ := gro_TI hG (nE V) (Nat.le_refl _)
      (repeat' first | ((with_reducible apply x_gR); rfl; rfl) | ((with_reducible apply x_gRs hq); rfl) | ((with_reducible refine x_gI ?_ ?_); rfl; try simp only [Int.cast_ofNat_Int]) | ((with_reducible refine x_gIs hq ?_); try simp only [Int.cast_ofNat_Int]) | ((with_reducible refine x_ob ?_ ?_); rfl) | (with_reducible refine x_obs hq ?_) | (with_reducible refine x_lI ?_) | (with_reducible refine x_lJ ?_) | (with_reducible refine x_le (by omega) (by omega) (fun h => ?_) (fun h => ?_)) | (with_reducible refine x_lt (by omega) (by omega) (fun h => ?_) (fun h => ?_)) | (with_reducible refine x_eq (by omega) (by omega) (fun h => ?_) (fun h => ?_)) | (with_reducible refine x_brT ?_) | (with_reducible refine x_brF ?_) | (with_reducible refine x_rI ?_) | (with_reducible refine x_rV ?_) | (with_reducible refine x_rJ ?_) | (with_reducible refine x_rZ (by omega) ?_) | (with_reducible refine x_rO ?_) | (with_reducible refine x_thr ?_) | ((with_reducible refine x_pI ?_ ?_); rfl; try simp only [Int.cast_ofNat_Int]) | ((with_reducible refine x_pIs hq ?_); try simp only [Int.cast_ofNat_Int]) | ((with_reducible refine x_pZ ?_ (by omega) ?_); rfl; try simp only [Int.cast_ofNat_Int]) | ((with_reducible refine x_pZs hq (by omega) ?_); try simp only [Int.cast_ofNat_Int]) | (with_reducible refine x_pR ?_) | ((with_reducible apply x_aI); (first | assumption | rfl | exact (kb_st _ hq).2.1 | exact (kb_st _ hq).2.2.1 _ (by omega) (by omega) | exact (kb_st _ hq).2.2.2.1 _ (by omega) (by omega)); omega; omega; omega) | ((with_reducible apply x_sA); (first | assumption | rfl | exact (kb_st _ hq).2.1 | exact (kb_st _ hq).2.2.1 _ (by omega) (by omega) | exact (kb_st _ hq).2.2.2.1 _ (by omega) (by omega)); omega; omega; omega) | ((with_reducible apply x_aL); (first | assumption | rfl | exact (kb_st _ hq).2.1 | exact (kb_st _ hq).2.2.1 _ (by omega) (by omega) | exact (kb_st _ hq).2.2.2.1 _ (by omega) (by omega)); omega) | ((with_reducible apply x_aB); rfl; omega; omega; omega; omega) | ((with_reducible apply x_sZ); rfl; omega; omega; omega; omega) | ((with_reducible refine x_nz ?_ ?_ ?_ ?_); omega; omega; omega) | ((with_reducible refine x_nzl ?_ ?_ ?_ ?_); omega; omega; omega) | (simp (disch := omega) only [Int.cast_ofNat_Int, Int.natCast_add, Int.toNat_natCast, i32_add, i32_sub, i32_mul, i32_neg, i32_lit, i64_add, i64_sub, i64_mul, i64_neg, i64_lit, i64_int, h3, i32_long, up_self, up_q, up_k]))
      all_goals (try omega)
      refine hQ I' hf ⟨hR, hn, fun k h0 h1 hE => ?_⟩ fun x hx => by rw [hR.2.1 x x hx hx rfl]; exact (hT.1 x hx).2.1
      obtain ⟨t, h2, h3⟩ := (so_ok V).2.2 k.toNat (by omega) (by rw [Int.toNat_of_nonneg h0]; exact hE)
      rw [Int.toNat_of_nonneg h0] at h3
      rw [← h3]
      exact ht t h2
    · rw [f2 185 (by omega), hz]
      show (0 : Int) = ((ct (fT fo0) 144 : Nat) : Int)
      rw [ct_nil (p := fT fo0) (fun i _ _ => rfl)]; rfl
end CF54
