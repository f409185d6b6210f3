section Edges49
variable {e : Nat} {I J : IM} {Q : Post} {V : Vw} {s v a b : Int}
theorem sp_X0_estimateOf (hG : Good V) (hS : Sb I V (vn V)) {k : Nat} (hk : k < 144) (hE : isE V k = true) (hL : 1 ≤ b ∧ b ≤ 9999) (hQ : Q (.inl (some (.int (i32 (est V b k))))) (ME e I J)) : SX0_estimateOf [.ref 171, .int (i32 (rk V k)), .int (i32 b)] (ME e I J) Q := by
  refine x_in (Nat.le_of_ble_eq_true rfl) ?_
  dsimp only [bX0_estimateOf, bX0_estimateOf_0]
  have r := rk_lt40 hG hk hE
  have d := hS.2.1 k hk hE
  have c := gd_E hG (isE_iff.mp hE)
  have g3 := swg_rg (d := dk V k) (L := b) (by omega) hL
  have d1 : I 181 (rk V k) = wcn V k := d.2.2.2.2.2.1
  have d2 : I 179 (rk V k) = cnt V k := d.2.2.2.1
  have d3 : I 182 (rk V k) = wsu V k := d.2.2.2.2.2.2.1
  have d4 : I 183 (rk V k) = asu V k := d.2.2.2.2.2.2.2
  have d5 : I 178 (rk V k) = dk V k := d.2.2.1
  have w1 := cnt_rg V k
  have w2 := wcn_rg V k
  have w3 := gd_wsu hG k
  have w4 := gd_asu hG k
  have n := hG.2.1
  have w5 : (cnt V k - wcn V k) * 25839 ≤ 40 * 25839 := by omega
  have w6 : wcn V k * 25839 ≤ 40 * 25839 := by omega
  have w7 : ∀ x y M : Int, 0 ≤ y → 0 ≤ M → -(M) ≤ x → x ≤ M → -M ≤ x / y ∧ x / y ≤ M := by
    intro x y M hy hM h1 h2
    rcases Int.lt_or_eq_of_le hy with h | h
    · have := Int.mul_le_mul_of_nonneg_right (show 1 ≤ y by omega) hM
      exact div_bd h (by omega) (by omega)
    · rw [← h, Int.ediv_zero]; omega
  have w8 := w7 (wsu V k) (wcn V k) (40 * 25839) (by omega) (by omega) (by omega) (by omega)
  have w9 := w7 (asu V k) (cnt V k - wcn V k) (40 * 25839) (by omega) (by omega) (by omega) (by omega)
  (repeat' first | ((with_reducible apply x_gR); rfl; rfl) | ((with_reducible apply x_gRs hq); rfl) | ((with_reducible refine x_gI ?_ ?_); rfl; try simp only [Int.cast_ofNat_Int]) | ((with_reducible refine x_gIs hq ?_); try simp only [Int.cast_ofNat_Int]) | ((with_reducible refine x_ob ?_ ?_); rfl) | (with_reducible refine x_obs hq ?_) | (with_reducible refine x_lI ?_) | (with_reducible refine x_lJ ?_) | (with_reducible refine x_le (by omega) (by omega) (fun h => ?_) (fun h => ?_)) | (with_reducible refine x_lt (by omega) (by omega) (fun h => ?_) (fun h => ?_)) | (with_reducible refine x_eq (by omega) (by omega) (fun h => ?_) (fun h => ?_)) | (with_reducible refine x_brT ?_) | (with_reducible refine x_brF ?_) | (with_reducible refine x_rI ?_) | (with_reducible refine x_rV ?_) | (with_reducible refine x_rJ ?_) | (with_reducible refine x_rZ (by omega) ?_) | (with_reducible refine x_rO ?_) | (with_reducible refine x_thr ?_) | ((with_reducible refine x_pI ?_ ?_); rfl; try simp only [Int.cast_ofNat_Int]) | ((with_reducible refine x_pIs hq ?_); try simp only [Int.cast_ofNat_Int]) | ((with_reducible refine x_pZ ?_ (by omega) ?_); rfl; try simp only [Int.cast_ofNat_Int]) | ((with_reducible refine x_pZs hq (by omega) ?_); try simp only [Int.cast_ofNat_Int]) | (with_reducible refine x_pR ?_) | ((with_reducible apply x_aI); (first | assumption | rfl | exact (kb_st _ hq).2.1 | exact (kb_st _ hq).2.2.1 _ (by omega) (by omega) | exact (kb_st _ hq).2.2.2.1 _ (by omega) (by omega)); omega; omega; omega) | ((with_reducible apply x_sA); (first | assumption | rfl | exact (kb_st _ hq).2.1 | exact (kb_st _ hq).2.2.1 _ (by omega) (by omega) | exact (kb_st _ hq).2.2.2.1 _ (by omega) (by omega)); omega; omega; omega) | ((with_reducible apply x_aL); (first | assumption | rfl | exact (kb_st _ hq).2.1 | exact (kb_st _ hq).2.2.1 _ (by omega) (by omega) | exact (kb_st _ hq).2.2.2.1 _ (by omega) (by omega)); omega) | ((with_reducible apply x_cI); (with_reducible apply sp_X10_cell); (first | assumption | rfl | exact (kb_st _ hq).2.1 | exact (kb_st _ hq).2.2.1 _ (by omega) (by omega) | exact (kb_st _ hq).2.2.2.1 _ (by omega) (by omega)); omega; omega; omega; omega) | ((with_reducible refine x_cI (sp_X0_swings ?_ ?_ ?_)); omega; omega) | ((with_reducible refine x_cI (sp_X0_isOdd ?_ ?_ ?_)); omega; omega) | ((with_reducible refine x_cJ (sp_X10_quotient ?_ ?_ ?_)); omega; omega) | ((with_reducible apply x_aB); rfl; omega; omega; omega; omega) | ((with_reducible apply x_sZ); rfl; omega; omega; omega; omega) | ((with_reducible refine x_nz ?_ ?_ ?_ ?_); omega; omega; omega) | ((with_reducible refine x_nzl ?_ ?_ ?_ ?_); omega; omega; omega) | (simp (disch := omega) only [Int.cast_ofNat_Int, Int.natCast_add, Int.toNat_natCast, i32_add, i32_sub, i32_mul, i32_neg, i32_lit, i64_add, i64_sub, i64_mul, i64_neg, i64_lit, i64_int, d1, d2, d3, d4, d5, i32_long, up_self, up_q, up_k]))
  all_goals unfold est NOH at hQ
  all_goals first
    | omega
    | (rw [if_pos (by omega)] at hQ; exact hQ)
    | (rw [if_neg (by omega), if_pos (by omega)] at hQ; exact hQ)
    | (rw [if_neg (by omega), if_neg (by omega)] at hQ; exact hQ)
theorem insA_congr {v : Int} : ∀ (n : Nat) (f g : Int → Int), (∀ i : Int, 0 ≤ i → i < n → f i = g i) → ∀ i : Int, 0 ≤ i → i ≤ n → insA v n f i = insA v n g i := by
  intro n
  induction n with
  | zero => intro f g _ i h0 h1; simp only [insA, upd1]; rw [if_pos (by omega), if_pos (by omega)]
  | succ n ih =>
    intro f g h i h0 h1
    have hn := h n (by omega) (by omega)
    simp only [insA]
    rw [hn]
    split
    · by_cases hi : i ≤ n
      · refine ih _ _ (fun j a b => ?_) i h0 hi
        unfold upd1; rw [if_neg (by omega), if_neg (by omega)]; exact h j a (by omega)
      · have hin : i = n + 1 := by omega
        subst hin
        have key : ∀ (m : Nat) (f : Int → Int) (j : Int), (m : Int) < j → insA v m f j = f j := by
          intro m
          induction m with
          | zero => intro f j hj; simp only [insA, upd1]; rw [if_neg (by omega)]
          | succ m ihm =>
            intro f j hj
            simp only [insA]
            split
            · rw [ihm _ _ (by omega)]; unfold upd1; rw [if_neg (by omega)]
            · unfold upd1; rw [if_neg (by omega)]
        rw [key _ _ _ (by omega), key _ _ _ (by omega)]
        simp only [upd1, if_true]
    · unfold upd1
      split
      · rfl
      · exact h i h0 (by omega)
theorem sp_X0_insert {n : Nat} (hn : n < 40) (hv : -10000000 ≤ v ∧ v ≤ 10000000) (hb : ∀ i : Int, 0 ≤ i → i < n → -10000000 ≤ I 184 i ∧ I 184 i ≤ 10000000)
    (hQ : ∀ I' : IM, (∀ q, q ≠ 184 → I' q = I q) → I' 184 = insA v n (I 184) → Q (.inl none) (ME e I' J)) : SX0_insert [.ref 171, .int (i32 v), .int (i32 n)] (ME e I J) Q := by
  refine x_in (Nat.le_of_ble_eq_true rfl) ?_
  dsimp only [bX0_insert, bX0_insert_0]
  refine x_while (fun m a μ => ∃ I' : IM, m ≤ n ∧ a = [.ref 171, .int (i32 v), .int (i32 m)] ∧ μ = ME e I' J ∧ (∀ q, q ≠ 184 → I' q = I q) ∧ (∀ i : Int, 0 ≤ i → i < m → -10000000 ≤ I' 184 i ∧ I' 184 i ≤ 10000000) ∧ insA v m (I' 184) = insA v n (I 184)) ?_ (n := n) ⟨I, Nat.le_refl _, rfl, rfl, fun _ _ => rfl, hb, rfl⟩
  rintro m a μ ⟨I', hm, rfl, rfl, hf, hb, hI⟩ hJ
  dsimp only [bX0_insert, bX0_insert_1]
  cases m with
  | zero =>
    (repeat' first | ((with_reducible apply x_gR); rfl; rfl) | ((with_reducible apply x_gRs hq); rfl) | ((with_reducible refine x_gI ?_ ?_); rfl; try simp only [Int.cast_ofNat_Int]) | ((with_reducible refine x_gIs hq ?_); try simp only [Int.cast_ofNat_Int]) | ((with_reducible refine x_ob ?_ ?_); rfl) | (with_reducible refine x_obs hq ?_) | (with_reducible refine x_lI ?_) | (with_reducible refine x_lJ ?_) | (with_reducible refine x_le (by omega) (by omega) (fun h => ?_) (fun h => ?_)) | (with_reducible refine x_lt (by omega) (by omega) (fun h => ?_) (fun h => ?_)) | (with_reducible refine x_eq (by omega) (by omega) (fun h => ?_) (fun h => ?_)) | (with_reducible refine x_brT ?_) | (with_reducible refine x_brF ?_) | (with_reducible refine x_rI ?_) | (with_reducible refine x_rV ?_) | (with_reducible refine x_rJ ?_) | (with_reducible refine x_rZ (by omega) ?_) | (with_reducible refine x_rO ?_) | (with_reducible refine x_thr ?_) | ((with_reducible refine x_pI ?_ ?_); rfl; try simp only [Int.cast_ofNat_Int]) | ((with_reducible refine x_pIs hq ?_); try simp only [Int.cast_ofNat_Int]) | ((with_reducible refine x_pZ ?_ (by omega) ?_); rfl; try simp only [Int.cast_ofNat_Int]) | ((with_reducible refine x_pZs hq (by omega) ?_); try simp only [Int.cast_ofNat_Int]) | (with_reducible refine x_pR ?_) | ((with_reducible apply x_aI); (first | assumption | rfl | exact (kb_st _ hq).2.1 | exact (kb_st _ hq).2.2.1 _ (by omega) (by omega) | exact (kb_st _ hq).2.2.2.1 _ (by omega) (by omega)); omega; omega; omega) | ((with_reducible apply x_sA); (first | assumption | rfl | exact (kb_st _ hq).2.1 | exact (kb_st _ hq).2.2.1 _ (by omega) (by omega) | exact (kb_st _ hq).2.2.2.1 _ (by omega) (by omega)); omega; omega; omega) | ((with_reducible apply x_aL); (first | assumption | rfl | exact (kb_st _ hq).2.1 | exact (kb_st _ hq).2.2.1 _ (by omega) (by omega) | exact (kb_st _ hq).2.2.2.1 _ (by omega) (by omega)); omega) | ((with_reducible apply x_cI); (with_reducible apply sp_X10_cell); (first | assumption | rfl | exact (kb_st _ hq).2.1 | exact (kb_st _ hq).2.2.1 _ (by omega) (by omega) | exact (kb_st _ hq).2.2.2.1 _ (by omega) (by omega)); omega; omega; omega; omega) | ((with_reducible apply x_cV); (with_reducible apply sp_X10_put); (first | assumption | rfl | exact (kb_st _ hq).2.1 | exact (kb_st _ hq).2.2.1 _ (by omega) (by omega) | exact (kb_st _ hq).2.2.2.1 _ (by omega) (by omega)); omega; omega; omega; omega) | ((with_reducible apply x_aB); rfl; omega; omega; omega; omega) | ((with_reducible apply x_sZ); rfl; omega; omega; omega; omega) | ((with_reducible refine x_nz ?_ ?_ ?_ ?_); omega; omega; omega) | ((with_reducible refine x_nzl ?_ ?_ ?_ ?_); omega; omega; omega) | (simp (disch := omega) only [Int.cast_ofNat_Int, Int.natCast_add, Int.toNat_natCast, i32_add, i32_sub, i32_mul, i32_neg, i32_lit, i64_add, i64_sub, i64_mul, i64_neg, i64_lit, i64_int, i32_long, up_self, up_q, up_k]))
    · refine hQ _ (fun q h => by rw [up_ne_q h, hf q h]) ?_
      rw [← hI]
      funext i
      simp only [insA, upd1, up]
      simp
    all_goals omega
  | succ m =>
    have e1 : ((m + 1 : Nat) : Int) - 1 = m := by omega
    have hbm := hb m (by omega) (by omega)
    have upd_up : ∀ (w : Int), up I' 184 ((m : Int) + 1) w 184 = upd1 (I' 184) ((m : Int) + 1) w := by
      intro w; funext i; simp only [up, upd1, true_and]
    (repeat' first | ((with_reducible apply x_gR); rfl; rfl) | ((with_reducible apply x_gRs hq); rfl) | ((with_reducible refine x_gI ?_ ?_); rfl; try simp only [Int.cast_ofNat_Int]) | ((with_reducible refine x_gIs hq ?_); try simp only [Int.cast_ofNat_Int]) | ((with_reducible refine x_ob ?_ ?_); rfl) | (with_reducible refine x_obs hq ?_) | (with_reducible refine x_lI ?_) | (with_reducible refine x_lJ ?_) | (with_reducible refine x_le (by omega) (by omega) (fun h => ?_) (fun h => ?_)) | (with_reducible refine x_lt (by omega) (by omega) (fun h => ?_) (fun h => ?_)) | (with_reducible refine x_eq (by omega) (by omega) (fun h => ?_) (fun h => ?_)) | (with_reducible refine x_brT ?_) | (with_reducible refine x_brF ?_) | (with_reducible refine x_rI ?_) | (with_reducible refine x_rV ?_) | (with_reducible refine x_rJ ?_) | (with_reducible refine x_rZ (by omega) ?_) | (with_reducible refine x_rO ?_) | (with_reducible refine x_thr ?_) | ((with_reducible refine x_pI ?_ ?_); rfl; try simp only [Int.cast_ofNat_Int]) | ((with_reducible refine x_pIs hq ?_); try simp only [Int.cast_ofNat_Int]) | ((with_reducible refine x_pZ ?_ (by omega) ?_); rfl; try simp only [Int.cast_ofNat_Int]) | ((with_reducible refine x_pZs hq (by omega) ?_); try simp only [Int.cast_ofNat_Int]) | (with_reducible refine x_pR ?_) | ((with_reducible apply x_aI); (first | assumption | rfl | exact (kb_st _ hq).2.1 | exact (kb_st _ hq).2.2.1 _ (by omega) (by omega) | exact (kb_st _ hq).2.2.2.1 _ (by omega) (by omega)); omega; omega; omega) | ((with_reducible apply x_sA); (first | assumption | rfl | exact (kb_st _ hq).2.1 | exact (kb_st _ hq).2.2.1 _ (by omega) (by omega) | exact (kb_st _ hq).2.2.2.1 _ (by omega) (by omega)); omega; omega; omega) | ((with_reducible apply x_aL); (first | assumption | rfl | exact (kb_st _ hq).2.1 | exact (kb_st _ hq).2.2.1 _ (by omega) (by omega) | exact (kb_st _ hq).2.2.2.1 _ (by omega) (by omega)); omega) | ((with_reducible apply x_cI); (with_reducible apply sp_X10_cell); (first | assumption | rfl | exact (kb_st _ hq).2.1 | exact (kb_st _ hq).2.2.1 _ (by omega) (by omega) | exact (kb_st _ hq).2.2.2.1 _ (by omega) (by omega)); omega; omega; omega; omega) | ((with_reducible apply x_cV); (with_reducible apply sp_X10_put); (first | assumption | rfl | exact (kb_st _ hq).2.1 | exact (kb_st _ hq).2.2.1 _ (by omega) (by omega) | exact (kb_st _ hq).2.2.2.1 _ (by omega) (by omega)); omega; omega; omega; omega) | ((with_reducible apply x_aB); rfl; omega; omega; omega; omega) | ((with_reducible apply x_sZ); rfl; omega; omega; omega; omega) | ((with_reducible refine x_nz ?_ ?_ ?_ ?_); omega; omega; omega) | ((with_reducible refine x_nzl ?_ ?_ ?_ ?_); omega; omega; omega) | (simp (disch := omega) only [Int.cast_ofNat_Int, Int.natCast_add, Int.toNat_natCast, i32_add, i32_sub, i32_mul, i32_neg, i32_lit, i64_add, i64_sub, i64_mul, i64_neg, i64_lit, i64_int, Int.add_sub_cancel, i32_long, up_self, up_q, up_k]))
    · omega
    · refine hQ _ (fun q h => by rw [up_ne_q h, hf q h]) ?_
      rw [← hI, upd_up]
      simp only [insA]
      rw [if_neg (by omega)]
    · refine x_J (av' := [.ref 171, .int (i32 v), .int (i32 m)]) ?_ rfl (hJ m _ _ (Nat.lt_succ_self m) ⟨_, by omega, rfl, rfl, fun q h => by rw [up_ne_q h, hf q h], fun i h0 h1 => ?_, ?_⟩)
      · rw [show (m : Int) + 1 + -1 = m by omega]
      · rw [up_k (by omega)]; exact hb i h0 (by omega)
      · rw [← hI, upd_up]
        simp only [insA]
        rw [if_pos (by omega)]
theorem rk_next {V : Vw} {N i : Nat} (h : i < rk V N) : ∃ k : Nat, k < N ∧ isE V k = true ∧ rk V k = i := ct_next h
theorem estF_succ (V : Vw) (L : Int) (k : Nat) : estF V L (k + 1) = if est V L k = NOH then estF V L k else ((estF V L k).1 + 1, insA (est V L k) (estF V L k).1 (estF V L k).2) := rfl
theorem est_no {L k : Int} (h : isE V k = false) : est V L k = NOH := by
  unfold est
  split
  · rfl
  · rw [if_pos]
    left
    have h1 := wcn_rg V k
    have h2 : ¬ 0 < cnt V k := fun q => by rw [isE_iff.mpr q] at h; exact absurd h (by decide)
    omega
theorem estF_flat {L : Int} {K K' : Nat} (h : K ≤ K') (hr : rk V K' = rk V K) : estF V L K' = estF V L K := by
  obtain ⟨d, rfl⟩ : ∃ d, K' = K + d := ⟨K' - K, by omega⟩
  clear h
  induction d with
  | zero => rfl
  | succ d ih =>
    have h1 : rk V (K + d) ≤ rk V (K + (d + 1)) := ct_mono _ (by omega)
    have h2 : rk V K ≤ rk V (K + d) := ct_mono _ (by omega)
    have h3 : rk V (K + d + 1) = rk V (K + d) + (if isE V ((K + d : Nat) : Int) = true then 1 else 0) := rfl
    have h4 : ¬ isE V ((K + d : Nat) : Int) = true := fun q => by
      rw [if_pos q] at h3
      have : rk V (K + (d + 1)) = rk V (K + d + 1) := rfl
      omega
    rw [show K + (d + 1) = (K + d) + 1 from rfl, estF_succ, if_pos (est_no (Bool.eq_false_iff.mpr h4))]
    exact ih (by rw [if_neg h4] at h3; have : rk V (K + (d + 1)) = rk V (K + d + 1) := rfl; omega)
theorem estF_cnt (V : Vw) (L : Int) (k : Nat) : (estF V L k).1 ≤ rk V k := by
  induction k with
  | zero => exact Nat.le_refl _
  | succ k ih =>
    rw [estF_succ]
    have h3 : rk V (k + 1) = rk V k + (if isE V (k : Int) = true then 1 else 0) := rfl
    split
    · omega
    · rename_i h
      have : isE V (k : Int) = true := by
        cases hE : isE V (k : Int)
        · exact absurd (est_no hE) h
        · rfl
      rw [if_pos this] at h3
      simp only []
      omega
theorem sp_X0_foundError (hG : Good V) (hS : Sb I V (vn V)) (hL : 1 ≤ a ∧ a ≤ 9999)
    (hQ : ∀ I' : IM, (∀ q, q ≠ 184 → I' q = I q) → Q (.inl (some (.int (i32 (ferr V a))))) (ME e I' J)) : SX0_foundError [.ref 171, .int (i32 a)] (ME e I J) Q := by
  refine x_in (Nat.le_of_ble_eq_true rfl) ?_
  dsimp only [bX0_foundError, bX0_foundError_0]
  have hn := rk_n V 144
  have hn2 := hG.2.1
  refine x_for (rk V 144) (fun i av μ => ∃ (I' : IM) (K : Nat), K ≤ 144 ∧ rk V K = i ∧ av = [.ref 171, .int (i32 a), .int (i32 (estF V a K).1), .int (i32 i)] ∧ μ = ME e I' J ∧ (∀ q, q ≠ 184 → I' q = I q) ∧ ∀ j : Int, 0 ≤ j → j < (estF V a K).1 → I' 184 j = (estF V a K).2 j) ?_ ?_ (Nat.zero_le _) ⟨I, 0, by omega, rfl, by simp only [Int.cast_ofNat_Int, Int.natCast_add, Int.toNat_natCast, i32_add, i32_sub, i32_mul, i32_neg, i32_lit, i64_add, i64_sub, i64_mul, i64_neg, i64_lit, i64_int, estF], rfl, fun _ _ => rfl, fun j h0 h1 => by simp [estF] at h1; omega⟩
  · rintro i av μ hi ⟨I', K, hK, hKi, rfl, rfl, hf, hs⟩ hJ
    dsimp only [bX0_foundError, bX0_foundError_1]
    obtain ⟨k, hk, hE, rfl⟩ := rk_next hi
    have hKk : K ≤ k := by
      rcases Nat.lt_or_ge k K with h | h
      · have := ct_lt (isE V) h hE
        unfold rk at hKi; omega
      · exact h
    have hfl : estF V a k = estF V a K := estF_flat hKk hKi.symm
    have hSb : Sb I' V (vn V) := by
      unfold Sb at *
      rw [hf 171 (by omega), hf 175 (by omega), hf 176 (by omega), hf 177 (by omega), hf 178 (by omega), hf 179 (by omega), hf 180 (by omega), hf 181 (by omega), hf 182 (by omega), hf 183 (by omega)]
      exact hS
    have h3 := hSb.1
    have hc := estF_cnt V a K
    have hb := (estF_bd hG a K).1
    have he := gd_est hG a k
    have hno : NOH = -10000000 := rfl
    have r40 := rk_lt40 hG hk hE
    have hk1 : rk V (k + 1) = rk V k + 1 := by rw [rk_succ, if_pos hE]
    have hs1 := estF_succ V a k
    rw [← hfl] at hs hc hb ⊢
    (repeat' first | ((with_reducible apply x_gR); rfl; rfl) | ((with_reducible apply x_gRs hq); rfl) | ((with_reducible refine x_gI ?_ ?_); rfl; try simp only [Int.cast_ofNat_Int]) | ((with_reducible refine x_gIs hq ?_); try simp only [Int.cast_ofNat_Int]) | ((with_reducible refine x_ob ?_ ?_); rfl) | (with_reducible refine x_obs hq ?_) | (with_reducible refine x_lI ?_) | (with_reducible refine x_lJ ?_) | (with_reducible refine x_le (by omega) (by omega) (fun h => ?_) (fun h => ?_)) | (with_reducible refine x_lt (by omega) (by omega) (fun h => ?_) (fun h => ?_)) | (with_reducible refine x_eq (by omega) (by omega) (fun h => ?_) (fun h => ?_)) | (with_reducible refine x_brT ?_) | (with_reducible refine x_brF ?_) | (with_reducible refine x_rI ?_) | (with_reducible refine x_rV ?_) | (with_reducible refine x_rJ ?_) | (with_reducible refine x_rZ (by omega) ?_) | (with_reducible refine x_rO ?_) | (with_reducible refine x_thr ?_) | ((with_reducible refine x_pI ?_ ?_); rfl; try simp only [Int.cast_ofNat_Int]) | ((with_reducible refine x_pIs hq ?_); try simp only [Int.cast_ofNat_Int]) | ((with_reducible refine x_pZ ?_ (by omega) ?_); rfl; try simp only [Int.cast_ofNat_Int]) | ((with_reducible refine x_pZs hq (by omega) ?_); try simp only [Int.cast_ofNat_Int]) | (with_reducible refine x_pR ?_) | ((with_reducible apply x_aI); (first | assumption | rfl | exact (kb_st _ hq).2.1 | exact (kb_st _ hq).2.2.1 _ (by omega) (by omega) | exact (kb_st _ hq).2.2.2.1 _ (by omega) (by omega)); omega; omega; omega) | ((with_reducible apply x_sA); (first | assumption | rfl | exact (kb_st _ hq).2.1 | exact (kb_st _ hq).2.2.1 _ (by omega) (by omega) | exact (kb_st _ hq).2.2.2.1 _ (by omega) (by omega)); omega; omega; omega) | ((with_reducible apply x_aL); (first | assumption | rfl | exact (kb_st _ hq).2.1 | exact (kb_st _ hq).2.2.1 _ (by omega) (by omega) | exact (kb_st _ hq).2.2.2.1 _ (by omega) (by omega)); omega) | ((with_reducible apply x_cI); (with_reducible apply sp_X10_cell); (first | assumption | rfl | exact (kb_st _ hq).2.1 | exact (kb_st _ hq).2.2.1 _ (by omega) (by omega) | exact (kb_st _ hq).2.2.2.1 _ (by omega) (by omega)); omega; omega; omega; omega) | ((with_reducible refine x_cI (sp_X0_estimateOf hG ?_ ?_ ?_ ?_ ?_)); assumption; omega; assumption; omega) | ((with_reducible apply x_aB); rfl; omega; omega; omega; omega) | ((with_reducible apply x_sZ); rfl; omega; omega; omega; omega) | ((with_reducible refine x_nz ?_ ?_ ?_ ?_); omega; omega; omega) | ((with_reducible refine x_nzl ?_ ?_ ?_ ?_); omega; omega; omega) | (simp (disch := omega) only [Int.cast_ofNat_Int, Int.natCast_add, Int.toNat_natCast, i32_add, i32_sub, i32_mul, i32_neg, i32_lit, i64_add, i64_sub, i64_mul, i64_neg, i64_lit, i64_int, h3, i32_long, up_self, up_q, up_k]))
    all_goals (try omega)
    · apply hJ
      rw [if_pos (by omega)] at hs1
      exact ⟨I', k + 1, by omega, hk1, by simp only [Int.cast_ofNat_Int, Int.natCast_add, Int.toNat_natCast, i32_add, i32_sub, i32_mul, i32_neg, i32_lit, i64_add, i64_sub, i64_mul, i64_neg, i64_lit, i64_int, hs1], rfl, hf, by rw [hs1]; exact hs⟩
    · refine x_cV (sp_X0_insert (n := (estF V a k).1) (v := est V a k) (I := I') (by omega) (by omega) (fun j h0 h1 => by rw [hs j h0 h1]; have := hb j; omega) fun I2 g1 g2 => ?_)
      dsimp only
      apply hJ
      rw [if_neg (by omega)] at hs1
      refine ⟨I2, k + 1, by omega, hk1, by simp only [Int.cast_ofNat_Int, Int.natCast_add, Int.toNat_natCast, i32_add, i32_sub, i32_mul, i32_neg, i32_lit, i64_add, i64_sub, i64_mul, i64_neg, i64_lit, i64_int, hs1], rfl, fun q h => by rw [g1 q h, hf q h], fun j h0 h1 => ?_⟩
      rw [hs1] at h1 ⊢
      rw [g2]
      exact insA_congr _ _ _ hs j h0 (by simp only [] at h1; omega)
  · rintro av μ ⟨I', K, hK, hKi, rfl, rfl, hf, hs⟩
    dsimp only [bX0_foundError, bX0_foundError_1]
    have h3 : I' 171 3 = rk V 144 := by rw [hf 171 (by omega)]; exact hS.1
    have hfl : estF V a 144 = estF V a K := estF_flat hK hKi.symm
    have hc := estF_cnt V a K
    have hn3 : rk V K ≤ 40 := by omega
    have hq := hQ I' hf
    unfold ferr at hq
    rw [hfl] at hq
    (repeat' first | ((with_reducible apply x_gR); rfl; rfl) | ((with_reducible apply x_gRs hq); rfl) | ((with_reducible refine x_gI ?_ ?_); rfl; try simp only [Int.cast_ofNat_Int]) | ((with_reducible refine x_gIs hq ?_); try simp only [Int.cast_ofNat_Int]) | ((with_reducible refine x_ob ?_ ?_); rfl) | (with_reducible refine x_obs hq ?_) | (with_reducible refine x_lI ?_) | (with_reducible refine x_lJ ?_) | (with_reducible refine x_le (by omega) (by omega) (fun h => ?_) (fun h => ?_)) | (with_reducible refine x_lt (by omega) (by omega) (fun h => ?_) (fun h => ?_)) | (with_reducible refine x_eq (by omega) (by omega) (fun h => ?_) (fun h => ?_)) | (with_reducible refine x_brT ?_) | (with_reducible refine x_brF ?_) | (with_reducible refine x_rI ?_) | (with_reducible refine x_rV ?_) | (with_reducible refine x_rJ ?_) | (with_reducible refine x_rZ (by omega) ?_) | (with_reducible refine x_rO ?_) | (with_reducible refine x_thr ?_) | ((with_reducible refine x_pI ?_ ?_); rfl; try simp only [Int.cast_ofNat_Int]) | ((with_reducible refine x_pIs hq ?_); try simp only [Int.cast_ofNat_Int]) | ((with_reducible refine x_pZ ?_ (by omega) ?_); rfl; try simp only [Int.cast_ofNat_Int]) | ((with_reducible refine x_pZs hq (by omega) ?_); try simp only [Int.cast_ofNat_Int]) | (with_reducible refine x_pR ?_) | ((with_reducible apply x_aI); (first | assumption | rfl | exact (kb_st _ hq).2.1 | exact (kb_st _ hq).2.2.1 _ (by omega) (by omega) | exact (kb_st _ hq).2.2.2.1 _ (by omega) (by omega)); omega; omega; omega) | ((with_reducible apply x_sA); (first | assumption | rfl | exact (kb_st _ hq).2.1 | exact (kb_st _ hq).2.2.1 _ (by omega) (by omega) | exact (kb_st _ hq).2.2.2.1 _ (by omega) (by omega)); omega; omega; omega) | ((with_reducible apply x_aL); (first | assumption | rfl | exact (kb_st _ hq).2.1 | exact (kb_st _ hq).2.2.1 _ (by omega) (by omega) | exact (kb_st _ hq).2.2.2.1 _ (by omega) (by omega)); omega) | ((with_reducible apply x_cI); (with_reducible apply sp_X10_cell); (first | assumption | rfl | exact (kb_st _ hq).2.1 | exact (kb_st _ hq).2.2.1 _ (by omega) (by omega) | exact (kb_st _ hq).2.2.2.1 _ (by omega) (by omega)); omega; omega; omega; omega) | ((with_reducible apply x_aB); rfl; omega; omega; omega; omega) | ((with_reducible apply x_sZ); rfl; omega; omega; omega; omega) | ((with_reducible refine x_nz ?_ ?_ ?_ ?_); omega; omega; omega) | ((with_reducible refine x_nzl ?_ ?_ ?_ ?_); omega; omega; omega) | (simp (disch := omega) only [Int.cast_ofNat_Int, Int.natCast_add, Int.toNat_natCast, i32_add, i32_sub, i32_mul, i32_neg, i32_lit, i64_add, i64_sub, i64_mul, i64_neg, i64_lit, i64_int, h3, i32_long, up_self, up_q, up_k]))
    · rw [if_pos (by omega)] at hq; exact hq
    · rw [if_neg (by omega)] at hq
      rw [i32_div (by omega) (by omega) (by omega) (by omega), Int.tdiv_eq_ediv_of_nonneg (by omega)]
      have h9 := hs (((estF V a K).1 - 1 : Int) / 2) (by omega) (by omega)
      (repeat' first | ((with_reducible apply x_gR); rfl; rfl) | ((with_reducible apply x_gRs hq); rfl) | ((with_reducible refine x_gI ?_ ?_); rfl; try simp only [Int.cast_ofNat_Int]) | ((with_reducible refine x_gIs hq ?_); try simp only [Int.cast_ofNat_Int]) | ((with_reducible refine x_ob ?_ ?_); rfl) | (with_reducible refine x_obs hq ?_) | (with_reducible refine x_lI ?_) | (with_reducible refine x_lJ ?_) | (with_reducible refine x_le (by omega) (by omega) (fun h => ?_) (fun h => ?_)) | (with_reducible refine x_lt (by omega) (by omega) (fun h => ?_) (fun h => ?_)) | (with_reducible refine x_eq (by omega) (by omega) (fun h => ?_) (fun h => ?_)) | (with_reducible refine x_brT ?_) | (with_reducible refine x_brF ?_) | (with_reducible refine x_rI ?_) | (with_reducible refine x_rV ?_) | (with_reducible refine x_rJ ?_) | (with_reducible refine x_rZ (by omega) ?_) | (with_reducible refine x_rO ?_) | (with_reducible refine x_thr ?_) | ((with_reducible refine x_pI ?_ ?_); rfl; try simp only [Int.cast_ofNat_Int]) | ((with_reducible refine x_pIs hq ?_); try simp only [Int.cast_ofNat_Int]) | ((with_reducible refine x_pZ ?_ (by omega) ?_); rfl; try simp only [Int.cast_ofNat_Int]) | ((with_reducible refine x_pZs hq (by omega) ?_); try simp only [Int.cast_ofNat_Int]) | (with_reducible refine x_pR ?_) | ((with_reducible apply x_aI); (first | assumption | rfl | exact (kb_st _ hq).2.1 | exact (kb_st _ hq).2.2.1 _ (by omega) (by omega) | exact (kb_st _ hq).2.2.2.1 _ (by omega) (by omega)); omega; omega; omega) | ((with_reducible apply x_sA); (first | assumption | rfl | exact (kb_st _ hq).2.1 | exact (kb_st _ hq).2.2.1 _ (by omega) (by omega) | exact (kb_st _ hq).2.2.2.1 _ (by omega) (by omega)); omega; omega; omega) | ((with_reducible apply x_aL); (first | assumption | rfl | exact (kb_st _ hq).2.1 | exact (kb_st _ hq).2.2.1 _ (by omega) (by omega) | exact (kb_st _ hq).2.2.2.1 _ (by omega) (by omega)); omega) | ((with_reducible apply x_cI); (with_reducible apply sp_X10_cell); (first | assumption | rfl | exact (kb_st _ hq).2.1 | exact (kb_st _ hq).2.2.1 _ (by omega) (by omega) | exact (kb_st _ hq).2.2.2.1 _ (by omega) (by omega)); omega; omega; omega; omega) | ((with_reducible apply x_aB); rfl; omega; omega; omega; omega) | ((with_reducible apply x_sZ); rfl; omega; omega; omega; omega) | ((with_reducible refine x_nz ?_ ?_ ?_ ?_); omega; omega; omega) | ((with_reducible refine x_nzl ?_ ?_ ?_ ?_); omega; omega; omega) | (simp (disch := omega) only [Int.cast_ofNat_Int, Int.natCast_add, Int.toNat_natCast, i32_add, i32_sub, i32_mul, i32_neg, i32_lit, i64_add, i64_sub, i64_mul, i64_neg, i64_lit, i64_int, h9, i32_long, up_self, up_q, up_k]))
      exact hq
    all_goals omega
end Edges49
