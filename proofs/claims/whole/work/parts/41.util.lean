section Util41
variable {e : Nat} {I J : IM} {Q : Post} {q n : Nat} {a b v : Int}
theorem sp_X10_cell (h1 : kb q = (1, n)) (h2 : 0 ≤ a) (h3 : a < n) (h4 : a < 2147483648) (h5 : (n : Int) < 2147483648) (hQ : Q (.inl (some (.int (i32 (I q a))))) (ME e I J)) : SX10_cell [.ref q, .int (i32 a)] (ME e I J) Q := by
  refine x_in (Nat.le_of_ble_eq_true rfl) ?_
  dsimp only [bX10_cell, bX10_cell_0]
  refine ⟨fun h => ?_, fun _ => x_aL h1 (Or.inl rfl) ⟨fun h => ?_, fun _ => x_aI h1 h2 h3 h4 (x_rI hQ)⟩⟩
  · rw [show (0 : Int32) = i32 0 from rfl, i32_lt (by omega) (by omega)] at h; omega
  · rw [i32_le (by omega) (by omega)] at h; omega
/-- out of the row: 0 -/
theorem sp_X10_cellO (h1 : kb q = (1, n)) (h3 : a < 0 ∨ n ≤ a) (h4 : -2147483648 ≤ a ∧ a < 2147483648) (h5 : (n : Int) < 2147483648) (hQ : Q (.inl (some (.int (i32 0)))) (ME e I J)) : SX10_cell [.ref q, .int (i32 a)] (ME e I J) Q := by
  refine x_in (Nat.le_of_ble_eq_true rfl) ?_
  dsimp only [bX10_cell, bX10_cell_0]
  refine ⟨fun _ => x_rI hQ, fun h => x_aL h1 (Or.inl rfl) ⟨fun _ => x_rI hQ, fun h' => ?_⟩⟩
  rw [show (0 : Int32) = i32 0 from rfl, i32_lt (by omega) (by omega)] at h
  rw [i32_le (by omega) (by omega)] at h'
  omega
theorem x_aLs {f : Int32 → Sem} {i : Nat} (hi : i < 3) (h : f (i32 4) (ME e I J) Q) : aL (1000 + i) f (ME e I J) Q := by
  have hk : kd (1000 + i) = (6, 4) := by rcases (show i = 0 ∨ i = 1 ∨ i = 2 by omega) with rfl | rfl | rfl <;> decide +kernel
  refine ⟨Or.inr (by rw [hk]), ?_⟩
  rw [hk]
  exact h
theorem x_aIs {f : Int32 → Sem} {i : Nat} (hi : i < 3) (h2 : 0 ≤ a) (h3 : a < 4) (h : f (sI (1000 + i) a.toNat) (ME e I J) Q) : aI (1000 + i) (i32 a) f (ME e I J) Q := by
  have hk : kd (1000 + i) = (6, 4) := by rcases (show i = 0 ∨ i = 1 ∨ i = 2 by omega) with rfl | rfl | rfl <;> decide +kernel
  refine ⟨by rw [hk]; exact i32_in h2 h3 (by omega), Or.inr ⟨by rw [hk], ?_⟩⟩
  rw [i32_clamp h2 (by omega)]
  exact h
theorem sp_X10_cellS {i : Nat} (hi : i < 3) (h2 : 0 ≤ a) (h3 : a < 4) (hQ : Q (.inl (some (.int (sI (1000 + i) a.toNat)))) (ME e I J)) : SX10_cell [.ref (1000 + i), .int (i32 a)] (ME e I J) Q := by
  refine x_in (Nat.le_of_ble_eq_true rfl) ?_
  dsimp only [bX10_cell, bX10_cell_0]
  refine ⟨fun h => ?_, fun _ => x_aLs hi ⟨fun h => ?_, fun _ => x_aIs hi h2 h3 (x_rI hQ)⟩⟩
  · rw [show (0 : Int32) = i32 0 from rfl, i32_lt (by omega) (by omega)] at h; omega
  · rw [i32_le (by omega) (by omega)] at h; omega
theorem sp_X10_put (h1 : kb q = (1, n)) (h2 : 0 ≤ a) (h3 : a < n) (h4 : a < 2147483648) (h5 : (n : Int) < 2147483648) (hQ : Q (.inl none) (ME e (up I q a v) J)) : SX10_put [.ref q, .int (i32 a), .int (i32 v)] (ME e I J) Q := by
  refine x_in (Nat.le_of_ble_eq_true rfl) ?_
  dsimp only [bX10_put, bX10_put_0]
  refine ⟨fun h => ?_, fun _ => x_aL h1 (Or.inl rfl) ⟨fun h => ?_, fun _ => x_sA h1 h2 h3 h4 (x_rV hQ)⟩⟩
  · rw [show (0 : Int32) = i32 0 from rfl, i32_lt (by omega) (by omega)] at h; omega
  · rw [i32_le (by omega) (by omega)] at h; omega
theorem sp_X10_addTo (h1 : kb q = (1, n)) (h2 : 0 ≤ a) (h3 : a < n) (h4 : a < 2147483648) (h5 : (n : Int) < 2147483648) (hQ : Q (.inl none) (ME e (up I q a (I q a + v)) J)) : SX10_addTo [.ref q, .int (i32 a), .int (i32 v)] (ME e I J) Q := by
  refine x_in (Nat.le_of_ble_eq_true rfl) ?_
  dsimp only [bX10_addTo, bX10_addTo_0]
  refine x_cI (sp_X10_cell h1 h2 h3 h4 h5 ?_)
  dsimp only
  rw [i32_add]
  exact x_cV (sp_X10_put h1 h2 h3 h4 h5 (x_rV hQ))
/-- one row filled -/
def rowF (I : IM) (q : Nat) (f : Int → Int) : IM := fun q' => if q' = q then f else I q'
theorem rowF_self {I : IM} {q : Nat} {f : Int → Int} : rowF I q f q = f := by simp [rowF]
theorem rowF_ne {I : IM} {q q' : Nat} {f : Int → Int} (h : q' ≠ q) : rowF I q f q' = I q' := by simp [rowF, h]
theorem ME_row {I I' : IM} (h : ∀ (q k : Nat), I q k = I' q k) : ME e I J = ME e I' J := by
  simp only [ME, h]
theorem sp_X10_fill (h1 : kb q = (1, n)) (h5 : (n : Int) < 2147483648) (hQ : Q (.inl none) (ME e (rowF I q (fun k => if 0 ≤ k ∧ k < n then v else I q k)) J)) : SX10_fill [.ref q, .int (i32 v)] (ME e I J) Q := by
  refine x_in (Nat.le_of_ble_eq_true rfl) ?_
  dsimp only [bX10_fill, bX10_fill_0]
  refine x_forD n (fun i => [.ref q, .int (i32 v), .int (i32 i)]) (fun i => ME e (rowF I q (fun k => if 0 ≤ k ∧ k < i then v else I q k)) J) ?_ ?_ (Nat.zero_le n) rfl ?_
  · intro i hi hJ
    dsimp only [bX10_fill, bX10_fill_1]
    refine x_aL h1 (Or.inl rfl) (x_le (by omega) (by omega) (fun h => by omega) (fun h => x_sA h1 (by omega) (by omega) (by omega) ?_))
    refine x_J ?_ ?_ hJ
    · simp only [Int.cast_ofNat_Int, Int.natCast_add, Int.toNat_natCast, i32_add, i32_sub, i32_mul, i32_neg, i32_lit, i64_add, i64_sub, i64_mul, i64_neg, i64_lit, i64_int]
    · apply ME_row
      intro q' k
      simp only [up, rowF]
      by_cases hq : q' = q
      · subst hq
        simp only [true_and, if_true]
        split
        · rw [if_pos (by omega)]
        · rename_i hk
          by_cases hk2 : 0 ≤ (k : Int) ∧ (k : Int) < i
          · rw [if_pos hk2, if_pos (by omega)]
          · rw [if_neg hk2, if_neg (by omega)]
      · simp only [hq, false_and, if_false]
  · dsimp only [bX10_fill, bX10_fill_1]
    exact x_aL h1 (Or.inl rfl) (x_le (by omega) (by omega) (fun h => x_rV hQ) (fun h => by omega))
  · apply ME_row
    intro q' k
    simp only [rowF]
    split
    · rename_i hq; subst hq; dsimp only; rw [if_neg (by omega)]
    · rfl
theorem sp_X10_copyRow {q2 n2 : Nat} (h1 : kb q = (1, n)) (h2 : kb q2 = (1, n)) (hne : q2 ≠ q) (h5 : (n : Int) < 2147483648) (hQ : Q (.inl none) (ME e (rowF I q (fun k => if 0 ≤ k ∧ k < n then I q2 k else I q k)) J)) : SX10_copyRow [.ref q, .ref q2] (ME e I J) Q := by
  refine x_in (Nat.le_of_ble_eq_true rfl) ?_
  dsimp only [bX10_copyRow, bX10_copyRow_0]
  refine x_forD n (fun i => [.ref q, .ref q2, .int (i32 i)]) (fun i => ME e (rowF I q (fun k => if 0 ≤ k ∧ k < i then I q2 k else I q k)) J) ?_ ?_ (Nat.zero_le n) rfl ?_
  · intro i hi hJ
    dsimp only [bX10_copyRow, bX10_copyRow_1]
    refine x_aL h1 (Or.inl rfl) (x_le (by omega) (by omega) (fun h => by omega) (fun h => x_aL h2 (Or.inl rfl) (x_le (by omega) (by omega) (fun h => by omega) (fun h => x_aI h2 (by omega) (by omega) (by omega) (x_sA h1 (by omega) (by omega) (by omega) ?_)))))
    refine x_J ?_ ?_ hJ
    · simp only [Int.cast_ofNat_Int, Int.natCast_add, Int.toNat_natCast, i32_add, i32_sub, i32_mul, i32_neg, i32_lit, i64_add, i64_sub, i64_mul, i64_neg, i64_lit, i64_int]
    · apply ME_row
      intro q' k
      simp only [up, rowF]
      by_cases hq : q' = q
      · subst hq
        simp only [true_and, if_true, if_neg hne]
        split
        · rename_i hk; rw [if_pos (by omega), hk]
        · rename_i hk
          by_cases hk2 : 0 ≤ (k : Int) ∧ (k : Int) < i
          · rw [if_pos hk2, if_pos (by omega)]
          · rw [if_neg hk2, if_neg (by omega)]
      · simp only [hq, false_and, if_false]
  · dsimp only [bX10_copyRow, bX10_copyRow_1]
    exact x_aL h1 (Or.inl rfl) (x_le (by omega) (by omega) (fun h => x_rV hQ) (fun h => by omega))
  · apply ME_row
    intro q' k
    simp only [rowF]
    split
    · rename_i hq; subst hq; dsimp only; rw [if_neg (by omega)]
    · rfl
theorem sp_X10_pairOf (ha : -1000 < a ∧ a < 1000) (hb : -1000 < b ∧ b < 1000) (hQ : Q (.inl (some (.int (i32 (if a < b then 12 * a + b else 12 * b + a))))) (ME e I J)) : SX10_pairOf [.int (i32 a), .int (i32 b)] (ME e I J) Q := by
  refine x_in (Nat.le_of_ble_eq_true rfl) ?_
  dsimp only [bX10_pairOf, bX10_pairOf_0]
  (repeat' first | ((with_reducible apply x_gR); rfl; rfl) | ((with_reducible apply x_gRs hq); rfl) | ((with_reducible refine x_gI ?_ ?_); rfl; try simp only [Int.cast_ofNat_Int]) | ((with_reducible refine x_gIs hq ?_); try simp only [Int.cast_ofNat_Int]) | ((with_reducible refine x_ob ?_ ?_); rfl) | (with_reducible refine x_obs hq ?_) | (with_reducible refine x_lI ?_) | (with_reducible refine x_lJ ?_) | (with_reducible refine x_le (by omega) (by omega) (fun h => ?_) (fun h => ?_)) | (with_reducible refine x_lt (by omega) (by omega) (fun h => ?_) (fun h => ?_)) | (with_reducible refine x_eq (by omega) (by omega) (fun h => ?_) (fun h => ?_)) | (with_reducible refine x_brT ?_) | (with_reducible refine x_brF ?_) | (with_reducible refine x_rI ?_) | (with_reducible refine x_rV ?_) | (with_reducible refine x_rJ ?_) | (with_reducible refine x_rZ (by omega) ?_) | (with_reducible refine x_rO ?_) | (with_reducible refine x_thr ?_) | ((with_reducible refine x_pI ?_ ?_); rfl; try simp only [Int.cast_ofNat_Int]) | ((with_reducible refine x_pIs hq ?_); try simp only [Int.cast_ofNat_Int]) | ((with_reducible refine x_pZ ?_ (by omega) ?_); rfl; try simp only [Int.cast_ofNat_Int]) | ((with_reducible refine x_pZs hq (by omega) ?_); try simp only [Int.cast_ofNat_Int]) | (with_reducible refine x_pR ?_) | ((with_reducible apply x_aI); (first | assumption | rfl | exact (kb_st _ hq).2.1 | exact (kb_st _ hq).2.2.1 _ (by omega) (by omega) | exact (kb_st _ hq).2.2.2.1 _ (by omega) (by omega)); omega; omega; omega) | ((with_reducible apply x_sA); (first | assumption | rfl | exact (kb_st _ hq).2.1 | exact (kb_st _ hq).2.2.1 _ (by omega) (by omega) | exact (kb_st _ hq).2.2.2.1 _ (by omega) (by omega)); omega; omega; omega) | ((with_reducible apply x_aL); (first | assumption | rfl | exact (kb_st _ hq).2.1 | exact (kb_st _ hq).2.2.1 _ (by omega) (by omega) | exact (kb_st _ hq).2.2.2.1 _ (by omega) (by omega)); omega) | ((with_reducible apply x_aB); rfl; omega; omega; omega; omega) | ((with_reducible apply x_sZ); rfl; omega; omega; omega; omega) | ((with_reducible refine x_nz ?_ ?_ ?_ ?_); omega; omega; omega) | ((with_reducible refine x_nzl ?_ ?_ ?_ ?_); omega; omega; omega) | (simp (disch := omega) only [Int.cast_ofNat_Int, Int.natCast_add, Int.toNat_natCast, i32_add, i32_sub, i32_mul, i32_neg, i32_lit, i64_add, i64_sub, i64_mul, i64_neg, i64_lit, i64_int, i32_long, up_self, up_q, up_k]))
  · rw [if_neg (by omega)] at hQ; exact hQ
  · rw [if_pos (by omega)] at hQ; exact hQ
theorem lg_cmp0 {a b : Int} (h1 : -9223372036854775808 ≤ a ∧ a < 9223372036854775808) (h2 : -9223372036854775808 ≤ b ∧ b < 9223372036854775808) : (lg_cmp (i64 a) (i64 b) = 0) ↔ a = b := by
  unfold lg_cmp
  simp only [gt_iff_lt, i64_lt h2 h1, i64_eq h1 h2]
  split
  · constructor
    · intro h; exact absurd h (by decide)
    · intro h; omega
  · split
    · rename_i h; simp [h]
    · rename_i h
      constructor
      · intro h; exact absurd h (by decide)
      · intro h'; exact absurd h' h
theorem x_lceq {f g : Sem} {μ : Mem} (ha : -9223372036854775808 ≤ a ∧ a < 9223372036854775808) (hb : -9223372036854775808 ≤ b ∧ b < 9223372036854775808) (h1 : a = b → f μ Q) (h2 : ¬ a = b → g μ Q) : br (lg_cmp (i64 a) (i64 b) = 0) f g μ Q :=
  ⟨fun h => h1 ((lg_cmp0 ha hb).mp h), fun h => h2 fun h' => h ((lg_cmp0 ha hb).mpr h')⟩
theorem x_lcge {f g : Sem} {μ : Mem} (ha : -9223372036854775808 ≤ a ∧ a < 9223372036854775808) (hb : -9223372036854775808 ≤ b ∧ b < 9223372036854775808) (h1 : b ≤ a → f μ Q) (h2 : a < b → g μ Q) : br (0 ≤ lg_cmp (i64 a) (i64 b)) f g μ Q :=
  ⟨fun h => h1 ((i64_le hb ha).mp ((lg_cmp_ge _ _).mp h)), fun h => h2 (Int.not_le.mp fun h' => h ((lg_cmp_ge _ _).mpr ((i64_le hb ha).mpr h')))⟩
theorem i64_xor0 {x y : Int64} (h2 : 0 ≤ y.toInt) : (0 ≤ (x ^^^ y).toInt) ↔ 0 ≤ x.toInt := by
  have h3 : y.toBitVec.msb = false := by
    rw [BitVec.msb_eq_toInt]
    exact decide_eq_false (Int.not_lt.mpr h2)
  have h4 : (x ^^^ y).toBitVec.msb = x.toBitVec.msb := by
    rw [show (x ^^^ y).toBitVec = x.toBitVec ^^^ y.toBitVec from rfl, BitVec.msb_xor, h3, Bool.xor_false]
  rw [BitVec.msb_eq_toInt, BitVec.msb_eq_toInt] at h4
  have h5 := decide_eq_decide.mp h4
  show 0 ≤ (x ^^^ y).toBitVec.toInt ↔ 0 ≤ x.toBitVec.toInt
  omega
theorem i32_xor0 {x y : Int32} (h2 : 0 ≤ y.toInt) : (0 ≤ (x ^^^ y).toInt) ↔ 0 ≤ x.toInt := by
  have h3 : y.toBitVec.msb = false := by
    rw [BitVec.msb_eq_toInt]
    exact decide_eq_false (Int.not_lt.mpr h2)
  have h4 : (x ^^^ y).toBitVec.msb = x.toBitVec.msb := by
    rw [show (x ^^^ y).toBitVec = x.toBitVec ^^^ y.toBitVec from rfl, BitVec.msb_xor, h3, Bool.xor_false]
  rw [BitVec.msb_eq_toInt, BitVec.msb_eq_toInt] at h4
  have h5 := decide_eq_decide.mp h4
  show 0 ≤ (x ^^^ y).toBitVec.toInt ↔ 0 ≤ x.toBitVec.toInt
  omega
theorem tdiv_cases {a b : Int} (hb : 0 < b) : (0 ≤ a → a.tdiv b = a / b) ∧ (a.tdiv b * b = a → a.tdiv b = a / b) ∧ (¬ 0 ≤ a → ¬ a.tdiv b * b = a → a.tdiv b - 1 = a / b) := by
  have h := Int.tdiv_eq_ediv (a := a) (b := b)
  rw [Int.sign_eq_one_of_pos hb] at h
  refine ⟨fun h0 => Int.tdiv_eq_ediv_of_nonneg h0, fun h0 => ?_, fun h0 h1 => ?_⟩
  · rw [h, if_pos (Or.inr ⟨a.tdiv b, by rw [Int.mul_comm]; exact h0.symm⟩)]; omega
  · rw [h, if_neg]
    · omega
    · rintro (h2 | h2)
      · exact h0 h2
      · exact h1 (by rw [Int.tdiv_eq_ediv_of_dvd h2]; exact Int.ediv_mul_cancel h2)
theorem tdiv_bd {a b M : Int} (hb : 0 < b) (h1 : -M ≤ a) (h2 : a ≤ M) : -M ≤ a.tdiv b ∧ a.tdiv b ≤ M := by
  have h := Int.natAbs_tdiv_le_natAbs a b
  omega
theorem sp_J9_floorDiv_f86c9 (hb : 0 < b ∧ b < 9223372036854775808) (ha : -9223372036854775808 < a ∧ a < 9223372036854775808) (hQ : Q (.inl (some (.long (i64 (a / b))))) (ME e I J)) : SJ9_floorDiv_f86c9 [.long (i64 a), .long (i64 b)] (ME e I J) Q := by
  refine x_in (Nat.le_of_ble_eq_true rfl) ?_
  dsimp only [bJ9_floorDiv_f86c9, bJ9_floorDiv_f86c9_0]
  refine x_nzl (by omega) (by omega) (by omega) ?_
  rw [i64_div (by omega) (by omega) (by omega) (by omega)]
  refine x_lJ ?_
  have hc := tdiv_cases (a := a) hb.1
  have hbd := tdiv_bd (a := a) (M := 9223372036854775807) hb.1 (by omega) (by omega)
  have hx : (0 ≤ lg_cmp (i64 a ^^^ i64 b) 0) ↔ 0 ≤ a := by
    rw [lg_cmp_ge, Int64.le_iff_toInt_le, show (0 : Int64).toInt = 0 from rfl, i64_xor0 (by rw [i64_toInt (by omega) (by omega)]; omega), i64_toInt (by omega) (by omega)]
  refine ⟨fun h => x_rJ ?_, fun h => ?_⟩
  · rw [hc.1 (hx.mp h)]; exact hQ
  · have h0 : ¬ 0 ≤ a := fun q => h (hx.mpr q)
    have h3 : -9223372036854775808 ≤ a.tdiv b * b ∧ a.tdiv b * b < 9223372036854775808 := by
      have h4 : (-a).tdiv b = -(a.tdiv b) := Int.neg_tdiv a b
      rw [Int.tdiv_eq_ediv_of_nonneg (by omega)] at h4
      have h5 := Int.ediv_mul_le (-a) (b := b) (by omega)
      have h6 := Int.mul_nonneg (Int.ediv_nonneg (a := -a) (b := b) (by omega) (by omega)) (show 0 ≤ b by omega)
      have h7 : a.tdiv b * b = -((-a) / b * b) := by
        rw [show a.tdiv b = -((-a) / b) by omega, Int.neg_mul]
      omega
    rw [i64_mul]
    refine x_lceq h3 (by omega) (fun h => x_rJ ?_) (fun h => x_rJ ?_)
    · rw [hc.2.1 h]; exact hQ
    · rw [i64_lit, i64_sub]
      rw [hc.2.2 h0 h]; exact hQ
theorem sp_J9_floorDiv_7cf53 (hb : 0 < b ∧ b < 2147483648) (ha : -2147483648 < a ∧ a < 2147483648) (hQ : Q (.inl (some (.int (i32 (a / b))))) (ME e I J)) : SJ9_floorDiv_7cf53 [.int (i32 a), .int (i32 b)] (ME e I J) Q := by
  refine x_in (Nat.le_of_ble_eq_true rfl) ?_
  dsimp only [bJ9_floorDiv_7cf53, bJ9_floorDiv_7cf53_0]
  refine x_nz (by omega) (by omega) (by omega) ?_
  rw [i32_div (by omega) (by omega) (by omega) (by omega)]
  refine x_lI ?_
  have hc := tdiv_cases (a := a) hb.1
  have hbd := tdiv_bd (a := a) (M := 2147483647) hb.1 (by omega) (by omega)
  have hx : (0 ≤ i32 a ^^^ i32 b) ↔ 0 ≤ a := by
    rw [Int32.le_iff_toInt_le, show (0 : Int32).toInt = 0 from rfl, i32_xor0 (by rw [i32_toInt (by omega) (by omega)]; omega), i32_toInt (by omega) (by omega)]
  refine ⟨fun h => x_rI ?_, fun h => ?_⟩
  · rw [hc.1 (hx.mp h)]; exact hQ
  · have h0 : ¬ 0 ≤ a := fun q => h (hx.mpr q)
    have h3 : -2147483648 ≤ a.tdiv b * b ∧ a.tdiv b * b < 2147483648 := by
      have h4 : (-a).tdiv b = -(a.tdiv b) := Int.neg_tdiv a b
      rw [Int.tdiv_eq_ediv_of_nonneg (by omega)] at h4
      have h5 := Int.ediv_mul_le (-a) (b := b) (by omega)
      have h6 := Int.mul_nonneg (Int.ediv_nonneg (a := -a) (b := b) (by omega) (by omega)) (show 0 ≤ b by omega)
      have h7 : a.tdiv b * b = -((-a) / b * b) := by
        rw [show a.tdiv b = -((-a) / b) by omega, Int.neg_mul]
      omega
    rw [i32_mul]
    refine x_eq h3 (by omega) (fun h => x_rI ?_) (fun h => x_rI ?_)
    · rw [hc.2.1 h]; exact hQ
    · rw [i32_lit, i32_sub]
      rw [hc.2.2 h0 h]; exact hQ
theorem sp_J9_abs_0f7a4 (ha : -2147483648 ≤ a ∧ a < 2147483648) (hQ : Q (.inl (some (.int (i32 (if a < 0 then -a else a))))) (ME e I J)) : SJ9_abs_0f7a4 [.int (i32 a)] (ME e I J) Q := by
  refine x_in (Nat.le_of_ble_eq_true rfl) ?_
  dsimp only [bJ9_abs_0f7a4, bJ9_abs_0f7a4_0]
  (repeat' first | ((with_reducible apply x_gR); rfl; rfl) | ((with_reducible apply x_gRs hq); rfl) | ((with_reducible refine x_gI ?_ ?_); rfl; try simp only [Int.cast_ofNat_Int]) | ((with_reducible refine x_gIs hq ?_); try simp only [Int.cast_ofNat_Int]) | ((with_reducible refine x_ob ?_ ?_); rfl) | (with_reducible refine x_obs hq ?_) | (with_reducible refine x_lI ?_) | (with_reducible refine x_lJ ?_) | (with_reducible refine x_le (by omega) (by omega) (fun h => ?_) (fun h => ?_)) | (with_reducible refine x_lt (by omega) (by omega) (fun h => ?_) (fun h => ?_)) | (with_reducible refine x_eq (by omega) (by omega) (fun h => ?_) (fun h => ?_)) | (with_reducible refine x_brT ?_) | (with_reducible refine x_brF ?_) | (with_reducible refine x_rI ?_) | (with_reducible refine x_rV ?_) | (with_reducible refine x_rJ ?_) | (with_reducible refine x_rZ (by omega) ?_) | (with_reducible refine x_rO ?_) | (with_reducible refine x_thr ?_) | ((with_reducible refine x_pI ?_ ?_); rfl; try simp only [Int.cast_ofNat_Int]) | ((with_reducible refine x_pIs hq ?_); try simp only [Int.cast_ofNat_Int]) | ((with_reducible refine x_pZ ?_ (by omega) ?_); rfl; try simp only [Int.cast_ofNat_Int]) | ((with_reducible refine x_pZs hq (by omega) ?_); try simp only [Int.cast_ofNat_Int]) | (with_reducible refine x_pR ?_) | ((with_reducible apply x_aI); (first | assumption | rfl | exact (kb_st _ hq).2.1 | exact (kb_st _ hq).2.2.1 _ (by omega) (by omega) | exact (kb_st _ hq).2.2.2.1 _ (by omega) (by omega)); omega; omega; omega) | ((with_reducible apply x_sA); (first | assumption | rfl | exact (kb_st _ hq).2.1 | exact (kb_st _ hq).2.2.1 _ (by omega) (by omega) | exact (kb_st _ hq).2.2.2.1 _ (by omega) (by omega)); omega; omega; omega) | ((with_reducible apply x_aL); (first | assumption | rfl | exact (kb_st _ hq).2.1 | exact (kb_st _ hq).2.2.1 _ (by omega) (by omega) | exact (kb_st _ hq).2.2.2.1 _ (by omega) (by omega)); omega) | ((with_reducible apply x_aB); rfl; omega; omega; omega; omega) | ((with_reducible apply x_sZ); rfl; omega; omega; omega; omega) | ((with_reducible refine x_nz ?_ ?_ ?_ ?_); omega; omega; omega) | ((with_reducible refine x_nzl ?_ ?_ ?_ ?_); omega; omega; omega) | (simp (disch := omega) only [Int.cast_ofNat_Int, Int.natCast_add, Int.toNat_natCast, i32_add, i32_sub, i32_mul, i32_neg, i32_lit, i64_add, i64_sub, i64_mul, i64_neg, i64_lit, i64_int, i32_long, up_self, up_q, up_k]))
  · rw [if_neg (by omega)] at hQ; exact hQ
  · rw [if_pos (by omega)] at hQ; exact hQ
theorem sp_J9_max_7cf53 (ha : -2147483648 ≤ a ∧ a < 2147483648) (hb : -2147483648 ≤ b ∧ b < 2147483648) (hQ : Q (.inl (some (.int (i32 (if a < b then b else a))))) (ME e I J)) : SJ9_max_7cf53 [.int (i32 a), .int (i32 b)] (ME e I J) Q := by
  refine x_in (Nat.le_of_ble_eq_true rfl) ?_
  dsimp only [bJ9_max_7cf53, bJ9_max_7cf53_0]
  (repeat' first | ((with_reducible apply x_gR); rfl; rfl) | ((with_reducible apply x_gRs hq); rfl) | ((with_reducible refine x_gI ?_ ?_); rfl; try simp only [Int.cast_ofNat_Int]) | ((with_reducible refine x_gIs hq ?_); try simp only [Int.cast_ofNat_Int]) | ((with_reducible refine x_ob ?_ ?_); rfl) | (with_reducible refine x_obs hq ?_) | (with_reducible refine x_lI ?_) | (with_reducible refine x_lJ ?_) | (with_reducible refine x_le (by omega) (by omega) (fun h => ?_) (fun h => ?_)) | (with_reducible refine x_lt (by omega) (by omega) (fun h => ?_) (fun h => ?_)) | (with_reducible refine x_eq (by omega) (by omega) (fun h => ?_) (fun h => ?_)) | (with_reducible refine x_brT ?_) | (with_reducible refine x_brF ?_) | (with_reducible refine x_rI ?_) | (with_reducible refine x_rV ?_) | (with_reducible refine x_rJ ?_) | (with_reducible refine x_rZ (by omega) ?_) | (with_reducible refine x_rO ?_) | (with_reducible refine x_thr ?_) | ((with_reducible refine x_pI ?_ ?_); rfl; try simp only [Int.cast_ofNat_Int]) | ((with_reducible refine x_pIs hq ?_); try simp only [Int.cast_ofNat_Int]) | ((with_reducible refine x_pZ ?_ (by omega) ?_); rfl; try simp only [Int.cast_ofNat_Int]) | ((with_reducible refine x_pZs hq (by omega) ?_); try simp only [Int.cast_ofNat_Int]) | (with_reducible refine x_pR ?_) | ((with_reducible apply x_aI); (first | assumption | rfl | exact (kb_st _ hq).2.1 | exact (kb_st _ hq).2.2.1 _ (by omega) (by omega) | exact (kb_st _ hq).2.2.2.1 _ (by omega) (by omega)); omega; omega; omega) | ((with_reducible apply x_sA); (first | assumption | rfl | exact (kb_st _ hq).2.1 | exact (kb_st _ hq).2.2.1 _ (by omega) (by omega) | exact (kb_st _ hq).2.2.2.1 _ (by omega) (by omega)); omega; omega; omega) | ((with_reducible apply x_aL); (first | assumption | rfl | exact (kb_st _ hq).2.1 | exact (kb_st _ hq).2.2.1 _ (by omega) (by omega) | exact (kb_st _ hq).2.2.2.1 _ (by omega) (by omega)); omega) | ((with_reducible apply x_aB); rfl; omega; omega; omega; omega) | ((with_reducible apply x_sZ); rfl; omega; omega; omega; omega) | ((with_reducible refine x_nz ?_ ?_ ?_ ?_); omega; omega; omega) | ((with_reducible refine x_nzl ?_ ?_ ?_ ?_); omega; omega; omega) | (simp (disch := omega) only [Int.cast_ofNat_Int, Int.natCast_add, Int.toNat_natCast, i32_add, i32_sub, i32_mul, i32_neg, i32_lit, i64_add, i64_sub, i64_mul, i64_neg, i64_lit, i64_int, i32_long, up_self, up_q, up_k]))
  · rw [if_pos (by omega)] at hQ; exact hQ
  · rw [if_neg (by omega)] at hQ; exact hQ
theorem sp_J9_min_7cf53 (ha : -2147483648 ≤ a ∧ a < 2147483648) (hb : -2147483648 ≤ b ∧ b < 2147483648) (hQ : Q (.inl (some (.int (i32 (if b < a then b else a))))) (ME e I J)) : SJ9_min_7cf53 [.int (i32 a), .int (i32 b)] (ME e I J) Q := by
  refine x_in (Nat.le_of_ble_eq_true rfl) ?_
  dsimp only [bJ9_min_7cf53, bJ9_min_7cf53_0]
  (repeat' first | ((with_reducible apply x_gR); rfl; rfl) | ((with_reducible apply x_gRs hq); rfl) | ((with_reducible refine x_gI ?_ ?_); rfl; try simp only [Int.cast_ofNat_Int]) | ((with_reducible refine x_gIs hq ?_); try simp only [Int.cast_ofNat_Int]) | ((with_reducible refine x_ob ?_ ?_); rfl) | (with_reducible refine x_obs hq ?_) | (with_reducible refine x_lI ?_) | (with_reducible refine x_lJ ?_) | (with_reducible refine x_le (by omega) (by omega) (fun h => ?_) (fun h => ?_)) | (with_reducible refine x_lt (by omega) (by omega) (fun h => ?_) (fun h => ?_)) | (with_reducible refine x_eq (by omega) (by omega) (fun h => ?_) (fun h => ?_)) | (with_reducible refine x_brT ?_) | (with_reducible refine x_brF ?_) | (with_reducible refine x_rI ?_) | (with_reducible refine x_rV ?_) | (with_reducible refine x_rJ ?_) | (with_reducible refine x_rZ (by omega) ?_) | (with_reducible refine x_rO ?_) | (with_reducible refine x_thr ?_) | ((with_reducible refine x_pI ?_ ?_); rfl; try simp only [Int.cast_ofNat_Int]) | ((with_reducible refine x_pIs hq ?_); try simp only [Int.cast_ofNat_Int]) | ((with_reducible refine x_pZ ?_ (by omega) ?_); rfl; try simp only [Int.cast_ofNat_Int]) | ((with_reducible refine x_pZs hq (by omega) ?_); try simp only [Int.cast_ofNat_Int]) | (with_reducible refine x_pR ?_) | ((with_reducible apply x_aI); (first | assumption | rfl | exact (kb_st _ hq).2.1 | exact (kb_st _ hq).2.2.1 _ (by omega) (by omega) | exact (kb_st _ hq).2.2.2.1 _ (by omega) (by omega)); omega; omega; omega) | ((with_reducible apply x_sA); (first | assumption | rfl | exact (kb_st _ hq).2.1 | exact (kb_st _ hq).2.2.1 _ (by omega) (by omega) | exact (kb_st _ hq).2.2.2.1 _ (by omega) (by omega)); omega; omega; omega) | ((with_reducible apply x_aL); (first | assumption | rfl | exact (kb_st _ hq).2.1 | exact (kb_st _ hq).2.2.1 _ (by omega) (by omega) | exact (kb_st _ hq).2.2.2.1 _ (by omega) (by omega)); omega) | ((with_reducible apply x_aB); rfl; omega; omega; omega; omega) | ((with_reducible apply x_sZ); rfl; omega; omega; omega; omega) | ((with_reducible refine x_nz ?_ ?_ ?_ ?_); omega; omega; omega) | ((with_reducible refine x_nzl ?_ ?_ ?_ ?_); omega; omega; omega) | (simp (disch := omega) only [Int.cast_ofNat_Int, Int.natCast_add, Int.toNat_natCast, i32_add, i32_sub, i32_mul, i32_neg, i32_lit, i64_add, i64_sub, i64_mul, i64_neg, i64_lit, i64_int, i32_long, up_self, up_q, up_k]))
  · rw [if_pos (by omega)] at hQ; exact hQ
  · rw [if_neg (by omega)] at hQ; exact hQ
/-- rounds down; 0 by 0 -/
theorem sp_X10_quotient (hb : 0 ≤ b ∧ b < 9223372036854775808) (ha : -9223372036854775808 < a ∧ a < 9223372036854775808) (hQ : Q (.inl (some (.long (i64 (a / b))))) (ME e I J)) : SX10_quotient [.long (i64 a), .long (i64 b)] (ME e I J) Q := by
  refine x_in (Nat.le_of_ble_eq_true rfl) ?_
  dsimp only [bX10_quotient, bX10_quotient_0]
  rw [i64_lit]
  refine x_lceq (by omega) (by omega) (fun h => x_rJ ?_) (fun h => x_cJ (sp_J9_floorDiv_f86c9 (by omega) (by omega) (x_rJ hQ)))
  subst h
  rw [Int.ediv_zero] at hQ
  exact hQ
end Util41
