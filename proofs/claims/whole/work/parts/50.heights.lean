/-! ===== heights ===== -/
def putH (H : Hw) (m h : Int) : Hw := (H.1, fun k => if k = m then 1 else hh H k, fun k => if k = m then h else hv H k)
/-- an edge's rise from its end b to the other one, as the class takes it -/
def rfk (V : Vw) (k b : Int) : Int := if b = k / 12 then ris V k else -ris V k
def meS (V : Vw) (H : Hw) (b k : Int) : Int := if isE V k = true ∧ oth k b ≠ -1 ∧ hh H (oth k b) = 1 then wgt V k * (hv H (oth k b) + rfk V k (oth k b)) else 0
def meW (V : Vw) (H : Hw) (b k : Int) : Int := if isE V k = true ∧ oth k b ≠ -1 ∧ hh H (oth k b) = 1 then wgt V k else 0
def mean (V : Vw) (H : Hw) (b : Int) : Int := if sm (meW V H b) 144 = 0 then hv H b else sm (meS V H b) 144 / sm (meW V H b) 144
/-- a round, mark by mark -/
def rr (V : Vw) (H : Hw) : Nat → Bool × Hw
  | 0 => (false, H)
  | k + 1 => if hb (rr V H k).2 k = 0 ∧ hh (rr V H k).2 k = 1 then
      ((rr V H k).1 || decide (mean V (rr V H k).2 k ≠ hv (rr V H k).2 k), putH (rr V H k).2 k (mean V (rr V H k).2 k)) else rr V H k
/-- rounds: how many changed a height, the heights then -/
def rbs (V : Vw) : Nat → Hw → Nat × Hw
  | 0, H => (0, H)
  | n + 1, H => if (rr V H (vm V)).1 = true then ((rbs V n (rr V H (vm V)).2).1 + 1, (rbs V n (rr V H (vm V)).2).2) else (0, (rr V H (vm V)).2)
def mis0 (V : Vw) (H : Hw) (k : Int) : Int := if isE V k = true ∧ hh H (k / 12) = 1 ∧ hh H (k % 12) = 1 then (hv H (k / 12) + ris V k - hv H (k % 12)) * (hv H (k / 12) + ris V k - hv H (k % 12)) else 0
def misf (V : Vw) (H : Hw) : Int := sm (mis0 V H) 144
def absI (x : Int) : Int := if x < 0 then -x else x
def ten (V : Vw) (H : Hw) (b : Int) : Nat → Int
  | 0 => 0
  | k + 1 => if isE V k = true ∧ oth k b ≠ -1 ∧ hh H (oth k b) = 1 ∧ ten V H b k < absI (hv H b - (hv H (oth k b) + rfk V k (oth k b))) then absI (hv H b - (hv H (oth k b) + rfk V k (oth k b))) else ten V H b k
def hgt (H : Hw) (b : Int) : Int := if hh H b = 1 then hv H b else -10000000
theorem sm_flat {f : Int → Int} {K K' : Nat} (h : K ≤ K') (hn : ∀ j : Nat, K ≤ j → j < K' → f j = 0) : sm f K' = sm f K := by
  obtain ⟨d, rfl⟩ : ∃ d, K' = K + d := ⟨K' - K, by omega⟩
  induction d with
  | zero => rfl
  | succ d ih =>
    rw [show K + (d + 1) = (K + d) + 1 by omega]
    simp only [sm]
    rw [hn (K + d) (by omega) (by omega), ih (by omega) (fun j h1 h2 => hn j h1 (by omega))]
    omega
theorem oth_rg {k b : Int} (h0 : 0 ≤ k) (h1 : k < 144) : -1 ≤ oth k b ∧ oth k b < 12 := by unfold oth; split <;> (try split) <;> omega
theorem oth_or {k b : Int} (h : oth k b ≠ -1) : oth k b = k / 12 ∨ oth k b = k % 12 := by unfold oth at *; split <;> (try split) <;> omega
theorem wgt_rg {V : Vw} (hG : Good V) {k : Int} (h : isE V k = true) : 0 ≤ wgt V k ∧ wgt V k ≤ 40000000 := by
  have c := gd_E hG (isE_iff.mp h)
  have n := cnt_rg V k
  have n2 := hG.2.1
  have a : 0 ≤ 1000000 / dk V k := Int.ediv_nonneg (by omega) (by omega)
  have b : 1000000 / dk V k ≤ 1000000 := Int.ediv_le_self _ (by omega)
  have := mul_bd (a := cnt V k) (b := 1000000 / dk V k) (A := 40) (B := 1000000) (by omega) ⟨a, b⟩
  have := Int.mul_nonneg n.1 a
  unfold wgt; omega
theorem x_lceq0 {e : Nat} {I J : IM} {Q : Post} {a b : Int} {f g : Sem} (ha : -9223372036854775808 ≤ a ∧ a < 9223372036854775808) (hb : -9223372036854775808 ≤ b ∧ b < 9223372036854775808) (h1 : a = b → f (ME e I J) Q) (h2 : ¬ a = b → g (ME e I J) Q) : br (lg_cmp (i64 a) (i64 b) = i32 0) f g (ME e I J) Q := by
  rw [show i32 0 = 0 from rfl]
  exact x_lceq ha hb h1 h2
section H58
variable {e : Nat} {I J : IM} {Q : Post} {V : Vw} {H : Hw} {s v a b : Int}
theorem sp_X6_hasHeight (hq : e ∈ stLs) {q : Nat} (hq2 : q ∈ stLs) {m : Nat} (hGH : GoodH m H) (hH : Rht I q H) (hb : 0 ≤ b ∧ b < 12) (hQ : Q (.inl (some (.int (i32 (hh H b))))) (ME e I J)) : SX6_hasHeight [.ref q, .int (i32 b)] (ME e I J) Q := by
  refine x_in (Nat.le_of_ble_eq_true rfl) ?_
  dsimp only [bX6_hasHeight, bX6_hasHeight_0]
  have hq := hq2
  have f := (hH b hb.1 hb.2).2.1
  have g := (hGH b hb.1 hb.2).2.1
  (repeat' first | ((with_reducible apply x_gR); rfl; rfl) | ((with_reducible apply x_gRs hq); rfl) | ((with_reducible refine x_gI ?_ ?_); rfl; try simp only [Int.cast_ofNat_Int]) | ((with_reducible refine x_gIs hq ?_); try simp only [Int.cast_ofNat_Int]) | ((with_reducible refine x_ob ?_ ?_); rfl) | (with_reducible refine x_obs hq ?_) | (with_reducible refine x_lI ?_) | (with_reducible refine x_lJ ?_) | (with_reducible refine x_le (by omega) (by omega) (fun h => ?_) (fun h => ?_)) | (with_reducible refine x_lt (by omega) (by omega) (fun h => ?_) (fun h => ?_)) | (with_reducible refine x_eq (by omega) (by omega) (fun h => ?_) (fun h => ?_)) | (with_reducible refine x_brT ?_) | (with_reducible refine x_brF ?_) | (with_reducible refine x_rI ?_) | (with_reducible refine x_rV ?_) | (with_reducible refine x_rJ ?_) | (with_reducible refine x_rZ (by omega) ?_) | (with_reducible refine x_rO ?_) | (with_reducible refine x_thr ?_) | ((with_reducible refine x_pI ?_ ?_); rfl; try simp only [Int.cast_ofNat_Int]) | ((with_reducible refine x_pIs hq ?_); try simp only [Int.cast_ofNat_Int]) | ((with_reducible refine x_pZ ?_ (by omega) ?_); rfl; try simp only [Int.cast_ofNat_Int]) | ((with_reducible refine x_pZs hq (by omega) ?_); try simp only [Int.cast_ofNat_Int]) | (with_reducible refine x_pR ?_) | ((with_reducible apply x_aI); (first | assumption | rfl | exact (kb_st _ hq).2.1 | exact (kb_st _ hq).2.2.1 _ (by omega) (by omega) | exact (kb_st _ hq).2.2.2.1 _ (by omega) (by omega)); omega; omega; omega) | ((with_reducible apply x_sA); (first | assumption | rfl | exact (kb_st _ hq).2.1 | exact (kb_st _ hq).2.2.1 _ (by omega) (by omega) | exact (kb_st _ hq).2.2.2.1 _ (by omega) (by omega)); omega; omega; omega) | ((with_reducible apply x_aL); (first | assumption | rfl | exact (kb_st _ hq).2.1 | exact (kb_st _ hq).2.2.1 _ (by omega) (by omega) | exact (kb_st _ hq).2.2.2.1 _ (by omega) (by omega)); omega) | ((with_reducible apply x_cI); (with_reducible apply sp_X10_cell); (first | assumption | rfl | exact (kb_st _ hq).2.1 | exact (kb_st _ hq).2.2.1 _ (by omega) (by omega) | exact (kb_st _ hq).2.2.2.1 _ (by omega) (by omega)); omega; omega; omega; omega) | ((with_reducible apply x_aB); rfl; omega; omega; omega; omega) | ((with_reducible apply x_sZ); rfl; omega; omega; omega; omega) | ((with_reducible refine x_nz ?_ ?_ ?_ ?_); omega; omega; omega) | ((with_reducible refine x_nzl ?_ ?_ ?_ ?_); omega; omega; omega) | (simp (disch := omega) only [Int.cast_ofNat_Int, Int.natCast_add, Int.toNat_natCast, i32_add, i32_sub, i32_mul, i32_neg, i32_lit, i64_add, i64_sub, i64_mul, i64_neg, i64_lit, i64_int, f, i32_long, up_self, up_q, up_k]))
  · rw [show hh H b = 1 by omega] at hQ; exact hQ
  · rw [show hh H b = 0 by omega] at hQ; exact hQ
theorem sp_X6_isBench (hq : e ∈ stLs) {q : Nat} (hq2 : q ∈ stLs) {m : Nat} (hGH : GoodH m H) (hH : Rht I q H) (hb0 : 0 ≤ b ∧ b < 12) (hQ : Q (.inl (some (.int (i32 (hb H b))))) (ME e I J)) : SX6_isBench [.ref q, .int (i32 b)] (ME e I J) Q := by
  refine x_in (Nat.le_of_ble_eq_true rfl) ?_
  dsimp only [bX6_isBench, bX6_isBench_0]
  have hq := hq2
  have f := (hH b hb0.1 hb0.2).1
  have g := (hGH b hb0.1 hb0.2).1
  (repeat' first | ((with_reducible apply x_gR); rfl; rfl) | ((with_reducible apply x_gRs hq); rfl) | ((with_reducible refine x_gI ?_ ?_); rfl; try simp only [Int.cast_ofNat_Int]) | ((with_reducible refine x_gIs hq ?_); try simp only [Int.cast_ofNat_Int]) | ((with_reducible refine x_ob ?_ ?_); rfl) | (with_reducible refine x_obs hq ?_) | (with_reducible refine x_lI ?_) | (with_reducible refine x_lJ ?_) | (with_reducible refine x_le (by omega) (by omega) (fun h => ?_) (fun h => ?_)) | (with_reducible refine x_lt (by omega) (by omega) (fun h => ?_) (fun h => ?_)) | (with_reducible refine x_eq (by omega) (by omega) (fun h => ?_) (fun h => ?_)) | (with_reducible refine x_brT ?_) | (with_reducible refine x_brF ?_) | (with_reducible refine x_rI ?_) | (with_reducible refine x_rV ?_) | (with_reducible refine x_rJ ?_) | (with_reducible refine x_rZ (by omega) ?_) | (with_reducible refine x_rO ?_) | (with_reducible refine x_thr ?_) | ((with_reducible refine x_pI ?_ ?_); rfl; try simp only [Int.cast_ofNat_Int]) | ((with_reducible refine x_pIs hq ?_); try simp only [Int.cast_ofNat_Int]) | ((with_reducible refine x_pZ ?_ (by omega) ?_); rfl; try simp only [Int.cast_ofNat_Int]) | ((with_reducible refine x_pZs hq (by omega) ?_); try simp only [Int.cast_ofNat_Int]) | (with_reducible refine x_pR ?_) | ((with_reducible apply x_aI); (first | assumption | rfl | exact (kb_st _ hq).2.1 | exact (kb_st _ hq).2.2.1 _ (by omega) (by omega) | exact (kb_st _ hq).2.2.2.1 _ (by omega) (by omega)); omega; omega; omega) | ((with_reducible apply x_sA); (first | assumption | rfl | exact (kb_st _ hq).2.1 | exact (kb_st _ hq).2.2.1 _ (by omega) (by omega) | exact (kb_st _ hq).2.2.2.1 _ (by omega) (by omega)); omega; omega; omega) | ((with_reducible apply x_aL); (first | assumption | rfl | exact (kb_st _ hq).2.1 | exact (kb_st _ hq).2.2.1 _ (by omega) (by omega) | exact (kb_st _ hq).2.2.2.1 _ (by omega) (by omega)); omega) | ((with_reducible apply x_cI); (with_reducible apply sp_X10_cell); (first | assumption | rfl | exact (kb_st _ hq).2.1 | exact (kb_st _ hq).2.2.1 _ (by omega) (by omega) | exact (kb_st _ hq).2.2.2.1 _ (by omega) (by omega)); omega; omega; omega; omega) | ((with_reducible apply x_aB); rfl; omega; omega; omega; omega) | ((with_reducible apply x_sZ); rfl; omega; omega; omega; omega) | ((with_reducible refine x_nz ?_ ?_ ?_ ?_); omega; omega; omega) | ((with_reducible refine x_nzl ?_ ?_ ?_ ?_); omega; omega; omega) | (simp (disch := omega) only [Int.cast_ofNat_Int, Int.natCast_add, Int.toNat_natCast, i32_add, i32_sub, i32_mul, i32_neg, i32_lit, i64_add, i64_sub, i64_mul, i64_neg, i64_lit, i64_int, f, i32_long, up_self, up_q, up_k]))
  · rw [show hb H b = 1 by omega] at hQ; exact hQ
  · rw [show hb H b = 0 by omega] at hQ; exact hQ
theorem sp_X6_heightOf (hq : e ∈ stLs) {q : Nat} (hq2 : q ∈ stLs) {m : Nat} (hGH : GoodH m H) (hH : Rht I q H) (hb : 0 ≤ b ∧ b < 12) (hQ : Q (.inl (some (.int (i32 (hgt H b))))) (ME e I J)) : SX6_heightOf [.ref q, .int (i32 b)] (ME e I J) Q := by
  refine x_in (Nat.le_of_ble_eq_true rfl) ?_
  dsimp only [bX6_heightOf, bX6_heightOf_0]
  have hq := hq2
  have f := (hH b hb.1 hb.2).2.2
  have g := (hGH b hb.1 hb.2).2.1
  (repeat' first | ((with_reducible apply x_gR); rfl; rfl) | ((with_reducible apply x_gRs hq); rfl) | ((with_reducible refine x_gI ?_ ?_); rfl; try simp only [Int.cast_ofNat_Int]) | ((with_reducible refine x_gIs hq ?_); try simp only [Int.cast_ofNat_Int]) | ((with_reducible refine x_ob ?_ ?_); rfl) | (with_reducible refine x_obs hq ?_) | (with_reducible refine x_lI ?_) | (with_reducible refine x_lJ ?_) | (with_reducible refine x_le (by omega) (by omega) (fun h => ?_) (fun h => ?_)) | (with_reducible refine x_lt (by omega) (by omega) (fun h => ?_) (fun h => ?_)) | (with_reducible refine x_eq (by omega) (by omega) (fun h => ?_) (fun h => ?_)) | (with_reducible refine x_brT ?_) | (with_reducible refine x_brF ?_) | (with_reducible refine x_rI ?_) | (with_reducible refine x_rV ?_) | (with_reducible refine x_rJ ?_) | (with_reducible refine x_rZ (by omega) ?_) | (with_reducible refine x_rO ?_) | (with_reducible refine x_thr ?_) | ((with_reducible refine x_pI ?_ ?_); rfl; try simp only [Int.cast_ofNat_Int]) | ((with_reducible refine x_pIs hq ?_); try simp only [Int.cast_ofNat_Int]) | ((with_reducible refine x_pZ ?_ (by omega) ?_); rfl; try simp only [Int.cast_ofNat_Int]) | ((with_reducible refine x_pZs hq (by omega) ?_); try simp only [Int.cast_ofNat_Int]) | (with_reducible refine x_pR ?_) | ((with_reducible apply x_aI); (first | assumption | rfl | exact (kb_st _ hq).2.1 | exact (kb_st _ hq).2.2.1 _ (by omega) (by omega) | exact (kb_st _ hq).2.2.2.1 _ (by omega) (by omega)); omega; omega; omega) | ((with_reducible apply x_sA); (first | assumption | rfl | exact (kb_st _ hq).2.1 | exact (kb_st _ hq).2.2.1 _ (by omega) (by omega) | exact (kb_st _ hq).2.2.2.1 _ (by omega) (by omega)); omega; omega; omega) | ((with_reducible apply x_aL); (first | assumption | rfl | exact (kb_st _ hq).2.1 | exact (kb_st _ hq).2.2.1 _ (by omega) (by omega) | exact (kb_st _ hq).2.2.2.1 _ (by omega) (by omega)); omega) | ((with_reducible refine x_cI (sp_X6_hasHeight ?_ ?_ hGH ?_ ?_ ?_)); assumption; assumption; (focus (first | assumption | exact Rht.up (by assumption) (by omega))); omega) | ((with_reducible apply x_cI); (with_reducible apply sp_X10_cell); (first | assumption | rfl | exact (kb_st _ hq).2.1 | exact (kb_st _ hq).2.2.1 _ (by omega) (by omega) | exact (kb_st _ hq).2.2.2.1 _ (by omega) (by omega)); omega; omega; omega; omega) | ((with_reducible apply x_aB); rfl; omega; omega; omega; omega) | ((with_reducible apply x_sZ); rfl; omega; omega; omega; omega) | ((with_reducible refine x_nz ?_ ?_ ?_ ?_); omega; omega; omega) | ((with_reducible refine x_nzl ?_ ?_ ?_ ?_); omega; omega; omega) | (simp (disch := omega) only [Int.cast_ofNat_Int, Int.natCast_add, Int.toNat_natCast, i32_add, i32_sub, i32_mul, i32_neg, i32_lit, i64_add, i64_sub, i64_mul, i64_neg, i64_lit, i64_int, i32_long, up_self, up_q, up_k]))
  · unfold hgt at hQ; rw [if_neg (by omega)] at hQ; exact hQ
  · unfold hgt at hQ; rw [if_pos (by omega)] at hQ; rw [f (by omega)]; exact hQ
theorem sp_X6_putHeight (hq : e ∈ stLs) {q : Nat} (hq2 : q ∈ stLs) (hb : 0 ≤ b ∧ b < 12) (hQ : Q (.inl none) (ME e (up (up I (q + 3) b 1) (q + 4) b v) J)) : SX6_putHeight [.ref q, .int (i32 b), .int (i32 v)] (ME e I J) Q := by
  refine x_in (Nat.le_of_ble_eq_true rfl) ?_
  dsimp only [bX6_putHeight, bX6_putHeight_0]
  have hq := hq2
  (repeat' first | ((with_reducible apply x_gR); rfl; rfl) | ((with_reducible apply x_gRs hq); rfl) | ((with_reducible refine x_gI ?_ ?_); rfl; try simp only [Int.cast_ofNat_Int]) | ((with_reducible refine x_gIs hq ?_); try simp only [Int.cast_ofNat_Int]) | ((with_reducible refine x_ob ?_ ?_); rfl) | (with_reducible refine x_obs hq ?_) | (with_reducible refine x_lI ?_) | (with_reducible refine x_lJ ?_) | (with_reducible refine x_le (by omega) (by omega) (fun h => ?_) (fun h => ?_)) | (with_reducible refine x_lt (by omega) (by omega) (fun h => ?_) (fun h => ?_)) | (with_reducible refine x_eq (by omega) (by omega) (fun h => ?_) (fun h => ?_)) | (with_reducible refine x_brT ?_) | (with_reducible refine x_brF ?_) | (with_reducible refine x_rI ?_) | (with_reducible refine x_rV ?_) | (with_reducible refine x_rJ ?_) | (with_reducible refine x_rZ (by omega) ?_) | (with_reducible refine x_rO ?_) | (with_reducible refine x_thr ?_) | ((with_reducible refine x_pI ?_ ?_); rfl; try simp only [Int.cast_ofNat_Int]) | ((with_reducible refine x_pIs hq ?_); try simp only [Int.cast_ofNat_Int]) | ((with_reducible refine x_pZ ?_ (by omega) ?_); rfl; try simp only [Int.cast_ofNat_Int]) | ((with_reducible refine x_pZs hq (by omega) ?_); try simp only [Int.cast_ofNat_Int]) | (with_reducible refine x_pR ?_) | ((with_reducible apply x_aI); (first | assumption | rfl | exact (kb_st _ hq).2.1 | exact (kb_st _ hq).2.2.1 _ (by omega) (by omega) | exact (kb_st _ hq).2.2.2.1 _ (by omega) (by omega)); omega; omega; omega) | ((with_reducible apply x_sA); (first | assumption | rfl | exact (kb_st _ hq).2.1 | exact (kb_st _ hq).2.2.1 _ (by omega) (by omega) | exact (kb_st _ hq).2.2.2.1 _ (by omega) (by omega)); omega; omega; omega) | ((with_reducible apply x_aL); (first | assumption | rfl | exact (kb_st _ hq).2.1 | exact (kb_st _ hq).2.2.1 _ (by omega) (by omega) | exact (kb_st _ hq).2.2.2.1 _ (by omega) (by omega)); omega) | ((with_reducible apply x_cV); (with_reducible apply sp_X10_put); (first | assumption | rfl | exact (kb_st _ hq).2.1 | exact (kb_st _ hq).2.2.1 _ (by omega) (by omega) | exact (kb_st _ hq).2.2.2.1 _ (by omega) (by omega)); omega; omega; omega; omega) | ((with_reducible apply x_aB); rfl; omega; omega; omega; omega) | ((with_reducible apply x_sZ); rfl; omega; omega; omega; omega) | ((with_reducible refine x_nz ?_ ?_ ?_ ?_); omega; omega; omega) | ((with_reducible refine x_nzl ?_ ?_ ?_ ?_); omega; omega; omega) | (simp (disch := omega) only [Int.cast_ofNat_Int, Int.natCast_add, Int.toNat_natCast, i32_add, i32_sub, i32_mul, i32_neg, i32_lit, i64_add, i64_sub, i64_mul, i64_neg, i64_lit, i64_int, i32_long, up_self, up_q, up_k]))
  exact hQ
theorem Rht_put {q : Nat} (hH : Rht I q H) {b h : Int} : Rht (up (up I (q + 3) b 1) (q + 4) b h) q (putH H b h) := by
  intro k h0 h1
  have g := hH k h0 h1
  refine ⟨?_, ?_, fun h2 => ?_⟩
  · rw [up_q (by omega), up_q (by omega)]; exact g.1
  · rw [up_q (by omega), up_at]
    show _ = if k = b then 1 else hh H k
    rw [g.2.1]
  · rw [up_at]
    show _ = if k = b then h else hv H k
    have h2 : (if k = b then 1 else hh H k) = 1 := h2
    split
    · rfl
    · rename_i hk
      rw [if_neg hk] at h2
      rw [up_q (by omega)]
      exact g.2.2 h2
theorem sp_X2_told (hq : e ∈ stLs) {q : Nat} (hq2 : q ∈ stLs) (hG : Good V) (hM : Md I V) {m : Nat} (hGH : GoodH m H) (hH : Rht I q H) {k : Nat} (hk : k < 144) (hE : isE V k = true) (hb : b = (k : Int) / 12 ∨ b = (k : Int) % 12) (hh1 : hh H b = 1)
    (hQ : Q (.inl (some (.int (i32 (hv H b + rfk V k b))))) (ME e I J)) : SX2_told [.ref 198, .ref q, .int (i32 (rk V k)), .int (i32 b)] (ME e I J) Q := by
  refine x_in (Nat.le_of_ble_eq_true rfl) ?_
  dsimp only [bX2_told, bX2_told_0]
  have hg : hgt H b = hv H b := by unfold hgt; rw [if_pos hh1]
  have c := gd_E hG (isE_iff.mp hE)
  have mm := hG.1
  have hr : (if b = (k : Int) / 12 then ris V k else -ris V k) = rfk V k b := rfl
  (repeat' first | ((with_reducible apply x_gR); rfl; rfl) | ((with_reducible apply x_gRs hq); rfl) | ((with_reducible refine x_gI ?_ ?_); rfl; try simp only [Int.cast_ofNat_Int]) | ((with_reducible refine x_gIs hq ?_); try simp only [Int.cast_ofNat_Int]) | ((with_reducible refine x_ob ?_ ?_); rfl) | (with_reducible refine x_obs hq ?_) | (with_reducible refine x_lI ?_) | (with_reducible refine x_lJ ?_) | (with_reducible refine x_le (by omega) (by omega) (fun h => ?_) (fun h => ?_)) | (with_reducible refine x_lt (by omega) (by omega) (fun h => ?_) (fun h => ?_)) | (with_reducible refine x_eq (by omega) (by omega) (fun h => ?_) (fun h => ?_)) | (with_reducible refine x_brT ?_) | (with_reducible refine x_brF ?_) | (with_reducible refine x_rI ?_) | (with_reducible refine x_rV ?_) | (with_reducible refine x_rJ ?_) | (with_reducible refine x_rZ (by omega) ?_) | (with_reducible refine x_rO ?_) | (with_reducible refine x_thr ?_) | ((with_reducible refine x_pI ?_ ?_); rfl; try simp only [Int.cast_ofNat_Int]) | ((with_reducible refine x_pIs hq ?_); try simp only [Int.cast_ofNat_Int]) | ((with_reducible refine x_pZ ?_ (by omega) ?_); rfl; try simp only [Int.cast_ofNat_Int]) | ((with_reducible refine x_pZs hq (by omega) ?_); try simp only [Int.cast_ofNat_Int]) | (with_reducible refine x_pR ?_) | ((with_reducible apply x_aI); (first | assumption | rfl | exact (kb_st _ hq).2.1 | exact (kb_st _ hq).2.2.1 _ (by omega) (by omega) | exact (kb_st _ hq).2.2.2.1 _ (by omega) (by omega)); omega; omega; omega) | ((with_reducible apply x_sA); (first | assumption | rfl | exact (kb_st _ hq).2.1 | exact (kb_st _ hq).2.2.1 _ (by omega) (by omega) | exact (kb_st _ hq).2.2.2.1 _ (by omega) (by omega)); omega; omega; omega) | ((with_reducible apply x_aL); (first | assumption | rfl | exact (kb_st _ hq).2.1 | exact (kb_st _ hq).2.2.1 _ (by omega) (by omega) | exact (kb_st _ hq).2.2.2.1 _ (by omega) (by omega)); omega) | ((with_reducible refine x_cI (sp_X6_heightOf ?_ ?_ hGH ?_ ?_ ?_)); assumption; assumption; (focus (first | assumption | exact Rht.up (by assumption) (by omega))); omega) | ((with_reducible refine x_cI (sp_X0_riseFrom hG ?_ ?_ ?_ ?_ ?_)); assumption; omega; assumption; omega) | ((with_reducible apply x_aB); rfl; omega; omega; omega; omega) | ((with_reducible apply x_sZ); rfl; omega; omega; omega; omega) | ((with_reducible refine x_nz ?_ ?_ ?_ ?_); omega; omega; omega) | ((with_reducible refine x_nzl ?_ ?_ ?_ ?_); omega; omega; omega) | (with_reducible refine x_obs hq2 ?_) | (simp (disch := omega) only [Int.cast_ofNat_Int, Int.natCast_add, Int.toNat_natCast, i32_add, i32_sub, i32_mul, i32_neg, i32_lit, i64_add, i64_sub, i64_mul, i64_neg, i64_lit, i64_int, hg, hr, i32_long, up_self, up_q, up_k]))
  exact hQ
theorem sp_X2_meanTold (hq : e ∈ stLs) {q : Nat} (hq2 : q ∈ stLs) (hG : Good V) (hM : Md I V) (hGH : GoodH (vm V) H) (hH : Rht I q H) (hB : HB (vm V) H 2000000000) (hb : 0 ≤ b ∧ b < vm V) (hhb : hh H b = 1)
    (hQ : Q (.inl (some (.int (i32 (mean V H b))))) (ME e I J)) : SX2_meanTold [.ref 198, .ref q, .int (i32 b)] (ME e I J) Q := by
  refine x_in (Nat.le_of_ble_eq_true rfl) ?_
  dsimp only [bX2_meanTold, bX2_meanTold_0]
  have h40 := nE40 hG
  have h3 := hM.2.2.1
  have mm := hG.1
  have hg : hgt H b = hv H b := by unfold hgt; rw [if_pos hhb]
  -- the sums stay in a long
  have t1 : ∀ k : Int, 0 ≤ k → k < 144 → -(meW V H b k * 2000051678) ≤ meS V H b k ∧ meS V H b k ≤ meW V H b k * 2000051678 := by
    intro k h0 h1
    unfold meS meW
    split
    · rename_i hc
      have w := wgt_rg hG hc.1
      have c := gd_E hG (isE_iff.mp hc.1)
      have o := oth_or hc.2.1
      have r := gd_ris hG (isE_iff.mp hc.1)
      have hx := hB (oth k b) (by omega) (by omega) hc.2.2
      have hy : -2000051678 ≤ hv H (oth k b) + rfk V k (oth k b) ∧ hv H (oth k b) + rfk V k (oth k b) ≤ 2000051678 := by unfold rfk; split <;> omega
      have z := mul_bd (a := hv H (oth k b) + rfk V k (oth k b)) (b := wgt V k) (A := 2000051678) (B := wgt V k) hy ⟨w.1, Int.le_refl _⟩
      rw [Int.mul_comm (hv H (oth k b) + rfk V k (oth k b))] at z
      rw [Int.mul_comm 2000051678] at z
      exact z
    · omega
  have t2 : ∀ k : Int, 0 ≤ meW V H b k ∧ meW V H b k ≤ if isE V k = true then 40000000 else 0 := by
    intro k
    unfold meW
    split
    · rename_i hc; rw [if_pos hc.1]; exact wgt_rg hG hc.1
    · split <;> omega
  have t3 : ∀ K : Nat, 0 ≤ sm (meW V H b) K ∧ sm (meW V H b) K ≤ rk V K * 40000000 := by
    intro K
    induction K with
    | zero => simp [sm, rk, ct]
    | succ K ih =>
      have := t2 K
      have r : rk V (K + 1) = rk V K + (if isE V (K : Int) = true then 1 else 0) := rfl
      simp only [sm]
      split at this <;> (rename_i hc; first | rw [if_pos hc] at r | rw [if_neg hc] at r) <;> omega
  have t4 : ∀ K : Nat, K ≤ 144 → -(sm (meW V H b) K * 2000051678) ≤ sm (meS V H b) K ∧ sm (meS V H b) K ≤ sm (meW V H b) K * 2000051678 := by
    intro K hK
    exact sm_dom K fun i a c => t1 i a (by omega)
  have t5 : ∀ K : Nat, K ≤ 144 → rk V K ≤ 40 := fun K hK => by have : rk V K ≤ rk V 144 := ct_mono _ hK; have : rk V 144 = nE V := rfl; omega
  refine x_for (nE V) (fun i av μ => ∃ K : Nat, K ≤ 144 ∧ rk V K = i ∧ av = [.ref 198, .ref q, .int (i32 b), .long (i64 (sm (meS V H b) K)), .long (i64 (sm (meW V H b) K)), .int (i32 i)] ∧ μ = ME e I J) ?_ ?_ (Nat.zero_le _) ⟨0, by omega, rfl, by simp only [Int.cast_ofNat_Int, Int.natCast_add, Int.toNat_natCast, i32_add, i32_sub, i32_mul, i32_neg, i32_lit, i64_add, i64_sub, i64_mul, i64_neg, i64_lit, i64_int, sm], rfl⟩
  · rintro i av μ hi ⟨K, hK, hKi, rfl, rfl⟩ hJ
    dsimp only [bX2_meanTold, bX2_meanTold_1]
    obtain ⟨k, hk, hE, rfl⟩ := rk_next hi
    have hKk : K ≤ k := by
      rcases Nat.lt_or_ge k K with h | h
      · have := ct_lt (isE V) h hE
        unfold rk at hKi; omega
      · exact h
    have gap := rk_gap hKi.symm
    have f1 : sm (meS V H b) k = sm (meS V H b) K := sm_flat hKk fun j h1 h2 => by unfold meS; rw [if_neg (fun q => by rw [gap j h1 h2] at q; exact absurd q.1 (by decide))]
    have f2 : sm (meW V H b) k = sm (meW V H b) K := sm_flat hKk fun j h1 h2 => by unfold meW; rw [if_neg (fun q => by rw [gap j h1 h2] at q; exact absurd q.1 (by decide))]
    rw [← f1, ← f2]
    have hk1 : rk V (k + 1) = rk V k + 1 := by rw [rk_succ, if_pos hE]
    have o := oth_rg (k := (k : Int)) (b := b) (by omega) (by omega)
    have b3 := t3 k
    have b4 := t4 k (by omega)
    have b5 := t5 k (by omega)
    have b3' := t3 (k + 1)
    have b4' := t4 (k + 1) (by omega)
    have w := wgt_rg hG hE
    have c := gd_E hG (isE_iff.mp hE)
    have hend : ∀ (x y : Int), meS V H b k = x → meW V H b k = y → fx bX2_meanTold 1 [.ref 198, .ref q, .int (i32 b), .long (i64 (sm (meS V H b) k + x)), .long (i64 (sm (meW V H b) k + y)), .int (i32 ((rk V k : Int) + 1))] (ME e I J) Q := by
      intro x y hx hy
      apply hJ
      exact ⟨k + 1, by omega, hk1, by simp only [Int.cast_ofNat_Int, Int.natCast_add, Int.toNat_natCast, i32_add, i32_sub, i32_mul, i32_neg, i32_lit, i64_add, i64_sub, i64_mul, i64_neg, i64_lit, i64_int, sm, hx, hy], rfl⟩
    have r := gd_ris hG (isE_iff.mp hE)
    by_cases ho : oth k b = -1
    · (repeat' first | ((with_reducible apply x_gR); rfl; rfl) | ((with_reducible apply x_gRs hq); rfl) | ((with_reducible refine x_gI ?_ ?_); rfl; try simp only [Int.cast_ofNat_Int]) | ((with_reducible refine x_gIs hq ?_); try simp only [Int.cast_ofNat_Int]) | ((with_reducible refine x_ob ?_ ?_); rfl) | (with_reducible refine x_obs hq ?_) | (with_reducible refine x_lI ?_) | (with_reducible refine x_lJ ?_) | (with_reducible refine x_le (by omega) (by omega) (fun h => ?_) (fun h => ?_)) | (with_reducible refine x_lt (by omega) (by omega) (fun h => ?_) (fun h => ?_)) | (with_reducible refine x_eq (by omega) (by omega) (fun h => ?_) (fun h => ?_)) | (with_reducible refine x_brT ?_) | (with_reducible refine x_brF ?_) | (with_reducible refine x_rI ?_) | (with_reducible refine x_rV ?_) | (with_reducible refine x_rJ ?_) | (with_reducible refine x_rZ (by omega) ?_) | (with_reducible refine x_rO ?_) | (with_reducible refine x_thr ?_) | ((with_reducible refine x_pI ?_ ?_); rfl; try simp only [Int.cast_ofNat_Int]) | ((with_reducible refine x_pIs hq ?_); try simp only [Int.cast_ofNat_Int]) | ((with_reducible refine x_pZ ?_ (by omega) ?_); rfl; try simp only [Int.cast_ofNat_Int]) | ((with_reducible refine x_pZs hq (by omega) ?_); try simp only [Int.cast_ofNat_Int]) | (with_reducible refine x_pR ?_) | ((with_reducible apply x_aI); (first | assumption | rfl | exact (kb_st _ hq).2.1 | exact (kb_st _ hq).2.2.1 _ (by omega) (by omega) | exact (kb_st _ hq).2.2.2.1 _ (by omega) (by omega)); omega; omega; omega) | ((with_reducible apply x_sA); (first | assumption | rfl | exact (kb_st _ hq).2.1 | exact (kb_st _ hq).2.2.1 _ (by omega) (by omega) | exact (kb_st _ hq).2.2.2.1 _ (by omega) (by omega)); omega; omega; omega) | ((with_reducible apply x_aL); (first | assumption | rfl | exact (kb_st _ hq).2.1 | exact (kb_st _ hq).2.2.1 _ (by omega) (by omega) | exact (kb_st _ hq).2.2.2.1 _ (by omega) (by omega)); omega) | ((with_reducible refine x_cI (sp_X6_heightOf ?_ ?_ hGH ?_ ?_ ?_)); assumption; assumption; (focus (first | assumption | exact Rht.up (by assumption) (by omega))); omega) | ((with_reducible refine x_cJ (sp_X10_quotient ?_ ?_ ?_)); omega; omega) | ((with_reducible refine x_cI (sp_X0_otherEnd hG ?_ ?_ ?_ ?_ ?_)); assumption; omega; assumption; omega) | ((with_reducible refine x_cI (sp_X6_hasHeight ?_ ?_ hGH ?_ ?_ ?_)); assumption; assumption; (focus (first | assumption | exact Rht.up (by assumption) (by omega))); omega) | ((with_reducible refine x_cI (sp_X0_weightOf hG ?_ ?_ ?_ ?_)); assumption; omega; assumption) | ((with_reducible refine x_cI (sp_X2_told hq ?_ hG ?_ hGH ?_ ?_ ?_ ?_ ?_ ?_)); (first | exact hq | assumption); assumption; (focus (first | assumption | exact Rht.up (by assumption) (by omega))); omega; assumption; (first | assumption | omega); (first | assumption | omega)) | ((with_reducible apply x_aB); rfl; omega; omega; omega; omega) | ((with_reducible apply x_sZ); rfl; omega; omega; omega; omega) | ((with_reducible refine x_nz ?_ ?_ ?_ ?_); omega; omega; omega) | ((with_reducible refine x_nzl ?_ ?_ ?_ ?_); omega; omega; omega) | (with_reducible refine x_obs hq2 ?_) | (simp (disch := omega) only [Int.cast_ofNat_Int, Int.natCast_add, Int.toNat_natCast, i32_add, i32_sub, i32_mul, i32_neg, i32_lit, i64_add, i64_sub, i64_mul, i64_neg, i64_lit, i64_int, h3, i32_long, up_self, up_q, up_k]))
      all_goals (try omega)
      have := hend 0 0 (by unfold meS; rw [if_neg (fun q => q.2.1 ho)]) (by unfold meW; rw [if_neg (fun q => q.2.1 ho)])
      rw [Int.add_zero, Int.add_zero] at this
      exact this
    · have oo := oth_or ho
      by_cases hho : hh H (oth k b) = 1
      · have hx := hB (oth k b) (by omega) (by omega) hho
        have hy : -2000051678 ≤ hv H (oth k b) + rfk V k (oth k b) ∧ hv H (oth k b) + rfk V k (oth k b) ≤ 2000051678 := by unfold rfk; split <;> omega
        (repeat' first | ((with_reducible apply x_gR); rfl; rfl) | ((with_reducible apply x_gRs hq); rfl) | ((with_reducible refine x_gI ?_ ?_); rfl; try simp only [Int.cast_ofNat_Int]) | ((with_reducible refine x_gIs hq ?_); try simp only [Int.cast_ofNat_Int]) | ((with_reducible refine x_ob ?_ ?_); rfl) | (with_reducible refine x_obs hq ?_) | (with_reducible refine x_lI ?_) | (with_reducible refine x_lJ ?_) | (with_reducible refine x_le (by omega) (by omega) (fun h => ?_) (fun h => ?_)) | (with_reducible refine x_lt (by omega) (by omega) (fun h => ?_) (fun h => ?_)) | (with_reducible refine x_eq (by omega) (by omega) (fun h => ?_) (fun h => ?_)) | (with_reducible refine x_brT ?_) | (with_reducible refine x_brF ?_) | (with_reducible refine x_rI ?_) | (with_reducible refine x_rV ?_) | (with_reducible refine x_rJ ?_) | (with_reducible refine x_rZ (by omega) ?_) | (with_reducible refine x_rO ?_) | (with_reducible refine x_thr ?_) | ((with_reducible refine x_pI ?_ ?_); rfl; try simp only [Int.cast_ofNat_Int]) | ((with_reducible refine x_pIs hq ?_); try simp only [Int.cast_ofNat_Int]) | ((with_reducible refine x_pZ ?_ (by omega) ?_); rfl; try simp only [Int.cast_ofNat_Int]) | ((with_reducible refine x_pZs hq (by omega) ?_); try simp only [Int.cast_ofNat_Int]) | (with_reducible refine x_pR ?_) | ((with_reducible apply x_aI); (first | assumption | rfl | exact (kb_st _ hq).2.1 | exact (kb_st _ hq).2.2.1 _ (by omega) (by omega) | exact (kb_st _ hq).2.2.2.1 _ (by omega) (by omega)); omega; omega; omega) | ((with_reducible apply x_sA); (first | assumption | rfl | exact (kb_st _ hq).2.1 | exact (kb_st _ hq).2.2.1 _ (by omega) (by omega) | exact (kb_st _ hq).2.2.2.1 _ (by omega) (by omega)); omega; omega; omega) | ((with_reducible apply x_aL); (first | assumption | rfl | exact (kb_st _ hq).2.1 | exact (kb_st _ hq).2.2.1 _ (by omega) (by omega) | exact (kb_st _ hq).2.2.2.1 _ (by omega) (by omega)); omega) | ((with_reducible refine x_cI (sp_X6_heightOf ?_ ?_ hGH ?_ ?_ ?_)); assumption; assumption; (focus (first | assumption | exact Rht.up (by assumption) (by omega))); omega) | ((with_reducible refine x_cJ (sp_X10_quotient ?_ ?_ ?_)); omega; omega) | ((with_reducible refine x_cI (sp_X0_otherEnd hG ?_ ?_ ?_ ?_ ?_)); assumption; omega; assumption; omega) | ((with_reducible refine x_cI (sp_X6_hasHeight ?_ ?_ hGH ?_ ?_ ?_)); assumption; assumption; (focus (first | assumption | exact Rht.up (by assumption) (by omega))); omega) | ((with_reducible refine x_cI (sp_X0_weightOf hG ?_ ?_ ?_ ?_)); assumption; omega; assumption) | ((with_reducible refine x_cI (sp_X2_told hq ?_ hG ?_ hGH ?_ ?_ ?_ ?_ ?_ ?_)); (first | exact hq | assumption); assumption; (focus (first | assumption | exact Rht.up (by assumption) (by omega))); omega; assumption; (first | assumption | omega); (first | assumption | omega)) | ((with_reducible apply x_aB); rfl; omega; omega; omega; omega) | ((with_reducible apply x_sZ); rfl; omega; omega; omega; omega) | ((with_reducible refine x_nz ?_ ?_ ?_ ?_); omega; omega; omega) | ((with_reducible refine x_nzl ?_ ?_ ?_ ?_); omega; omega; omega) | (with_reducible refine x_obs hq2 ?_) | (simp (disch := omega) only [Int.cast_ofNat_Int, Int.natCast_add, Int.toNat_natCast, i32_add, i32_sub, i32_mul, i32_neg, i32_lit, i64_add, i64_sub, i64_mul, i64_neg, i64_lit, i64_int, h3, i32_long, up_self, up_q, up_k]))
        all_goals (try omega)
        exact hend _ _ (by unfold meS; rw [if_pos ⟨hE, ho, hho⟩]) (by unfold meW; rw [if_pos ⟨hE, ho, hho⟩])
      · have g0 := (hGH (oth k b) (by omega) (by omega)).2.1
        (repeat' first | ((with_reducible apply x_gR); rfl; rfl) | ((with_reducible apply x_gRs hq); rfl) | ((with_reducible refine x_gI ?_ ?_); rfl; try simp only [Int.cast_ofNat_Int]) | ((with_reducible refine x_gIs hq ?_); try simp only [Int.cast_ofNat_Int]) | ((with_reducible refine x_ob ?_ ?_); rfl) | (with_reducible refine x_obs hq ?_) | (with_reducible refine x_lI ?_) | (with_reducible refine x_lJ ?_) | (with_reducible refine x_le (by omega) (by omega) (fun h => ?_) (fun h => ?_)) | (with_reducible refine x_lt (by omega) (by omega) (fun h => ?_) (fun h => ?_)) | (with_reducible refine x_eq (by omega) (by omega) (fun h => ?_) (fun h => ?_)) | (with_reducible refine x_brT ?_) | (with_reducible refine x_brF ?_) | (with_reducible refine x_rI ?_) | (with_reducible refine x_rV ?_) | (with_reducible refine x_rJ ?_) | (with_reducible refine x_rZ (by omega) ?_) | (with_reducible refine x_rO ?_) | (with_reducible refine x_thr ?_) | ((with_reducible refine x_pI ?_ ?_); rfl; try simp only [Int.cast_ofNat_Int]) | ((with_reducible refine x_pIs hq ?_); try simp only [Int.cast_ofNat_Int]) | ((with_reducible refine x_pZ ?_ (by omega) ?_); rfl; try simp only [Int.cast_ofNat_Int]) | ((with_reducible refine x_pZs hq (by omega) ?_); try simp only [Int.cast_ofNat_Int]) | (with_reducible refine x_pR ?_) | ((with_reducible apply x_aI); (first | assumption | rfl | exact (kb_st _ hq).2.1 | exact (kb_st _ hq).2.2.1 _ (by omega) (by omega) | exact (kb_st _ hq).2.2.2.1 _ (by omega) (by omega)); omega; omega; omega) | ((with_reducible apply x_sA); (first | assumption | rfl | exact (kb_st _ hq).2.1 | exact (kb_st _ hq).2.2.1 _ (by omega) (by omega) | exact (kb_st _ hq).2.2.2.1 _ (by omega) (by omega)); omega; omega; omega) | ((with_reducible apply x_aL); (first | assumption | rfl | exact (kb_st _ hq).2.1 | exact (kb_st _ hq).2.2.1 _ (by omega) (by omega) | exact (kb_st _ hq).2.2.2.1 _ (by omega) (by omega)); omega) | ((with_reducible refine x_cI (sp_X6_heightOf ?_ ?_ hGH ?_ ?_ ?_)); assumption; assumption; (focus (first | assumption | exact Rht.up (by assumption) (by omega))); omega) | ((with_reducible refine x_cJ (sp_X10_quotient ?_ ?_ ?_)); omega; omega) | ((with_reducible refine x_cI (sp_X0_otherEnd hG ?_ ?_ ?_ ?_ ?_)); assumption; omega; assumption; omega) | ((with_reducible refine x_cI (sp_X6_hasHeight ?_ ?_ hGH ?_ ?_ ?_)); assumption; assumption; (focus (first | assumption | exact Rht.up (by assumption) (by omega))); omega) | ((with_reducible refine x_cI (sp_X0_weightOf hG ?_ ?_ ?_ ?_)); assumption; omega; assumption) | ((with_reducible refine x_cI (sp_X2_told hq ?_ hG ?_ hGH ?_ ?_ ?_ ?_ ?_ ?_)); (first | exact hq | assumption); assumption; (focus (first | assumption | exact Rht.up (by assumption) (by omega))); omega; assumption; (first | assumption | omega); (first | assumption | omega)) | ((with_reducible apply x_aB); rfl; omega; omega; omega; omega) | ((with_reducible apply x_sZ); rfl; omega; omega; omega; omega) | ((with_reducible refine x_nz ?_ ?_ ?_ ?_); omega; omega; omega) | ((with_reducible refine x_nzl ?_ ?_ ?_ ?_); omega; omega; omega) | (with_reducible refine x_obs hq2 ?_) | (simp (disch := omega) only [Int.cast_ofNat_Int, Int.natCast_add, Int.toNat_natCast, i32_add, i32_sub, i32_mul, i32_neg, i32_lit, i64_add, i64_sub, i64_mul, i64_neg, i64_lit, i64_int, h3, i32_long, up_self, up_q, up_k]))
        all_goals (try omega)
        have := hend 0 0 (by unfold meS; rw [if_neg (fun q => hho q.2.2)]) (by unfold meW; rw [if_neg (fun q => hho q.2.2)])
        rw [Int.add_zero, Int.add_zero] at this
        exact this
  · rintro av μ ⟨K, hK, hKi, rfl, rfl⟩
    dsimp only [bX2_meanTold, bX2_meanTold_1]
    have gap := rk_gap hKi.symm
    have f1 : sm (meS V H b) 144 = sm (meS V H b) K := sm_flat hK fun j h1 h2 => by unfold meS; rw [if_neg (fun q => by rw [gap j h1 h2] at q; exact absurd q.1 (by decide))]
    have f2 : sm (meW V H b) 144 = sm (meW V H b) K := sm_flat hK fun j h1 h2 => by unfold meW; rw [if_neg (fun q => by rw [gap j h1 h2] at q; exact absurd q.1 (by decide))]
    have b3 := t3 K
    have b4 := t4 K hK
    have b5 := t5 K hK
    unfold mean at hQ
    rw [f1, f2] at hQ
    (repeat' first | ((with_reducible apply x_gR); rfl; rfl) | ((with_reducible apply x_gRs hq); rfl) | ((with_reducible refine x_gI ?_ ?_); rfl; try simp only [Int.cast_ofNat_Int]) | ((with_reducible refine x_gIs hq ?_); try simp only [Int.cast_ofNat_Int]) | ((with_reducible refine x_ob ?_ ?_); rfl) | (with_reducible refine x_obs hq ?_) | (with_reducible refine x_lI ?_) | (with_reducible refine x_lJ ?_) | (with_reducible refine x_le (by omega) (by omega) (fun h => ?_) (fun h => ?_)) | (with_reducible refine x_lt (by omega) (by omega) (fun h => ?_) (fun h => ?_)) | (with_reducible refine x_eq (by omega) (by omega) (fun h => ?_) (fun h => ?_)) | (with_reducible refine x_brT ?_) | (with_reducible refine x_brF ?_) | (with_reducible refine x_rI ?_) | (with_reducible refine x_rV ?_) | (with_reducible refine x_rJ ?_) | (with_reducible refine x_rZ (by omega) ?_) | (with_reducible refine x_rO ?_) | (with_reducible refine x_thr ?_) | ((with_reducible refine x_pI ?_ ?_); rfl; try simp only [Int.cast_ofNat_Int]) | ((with_reducible refine x_pIs hq ?_); try simp only [Int.cast_ofNat_Int]) | ((with_reducible refine x_pZ ?_ (by omega) ?_); rfl; try simp only [Int.cast_ofNat_Int]) | ((with_reducible refine x_pZs hq (by omega) ?_); try simp only [Int.cast_ofNat_Int]) | (with_reducible refine x_pR ?_) | ((with_reducible apply x_aI); (first | assumption | rfl | exact (kb_st _ hq).2.1 | exact (kb_st _ hq).2.2.1 _ (by omega) (by omega) | exact (kb_st _ hq).2.2.2.1 _ (by omega) (by omega)); omega; omega; omega) | ((with_reducible apply x_sA); (first | assumption | rfl | exact (kb_st _ hq).2.1 | exact (kb_st _ hq).2.2.1 _ (by omega) (by omega) | exact (kb_st _ hq).2.2.2.1 _ (by omega) (by omega)); omega; omega; omega) | ((with_reducible apply x_aL); (first | assumption | rfl | exact (kb_st _ hq).2.1 | exact (kb_st _ hq).2.2.1 _ (by omega) (by omega) | exact (kb_st _ hq).2.2.2.1 _ (by omega) (by omega)); omega) | ((with_reducible refine x_cI (sp_X6_heightOf ?_ ?_ hGH ?_ ?_ ?_)); assumption; assumption; (focus (first | assumption | exact Rht.up (by assumption) (by omega))); omega) | ((with_reducible refine x_cJ (sp_X10_quotient ?_ ?_ ?_)); omega; omega) | ((with_reducible refine x_cI (sp_X0_otherEnd hG ?_ ?_ ?_ ?_ ?_)); assumption; omega; assumption; omega) | ((with_reducible refine x_cI (sp_X6_hasHeight ?_ ?_ hGH ?_ ?_ ?_)); assumption; assumption; (focus (first | assumption | exact Rht.up (by assumption) (by omega))); omega) | ((with_reducible refine x_cI (sp_X0_weightOf hG ?_ ?_ ?_ ?_)); assumption; omega; assumption) | ((with_reducible refine x_cI (sp_X2_told hq ?_ hG ?_ hGH ?_ ?_ ?_ ?_ ?_ ?_)); (first | exact hq | assumption); assumption; (focus (first | assumption | exact Rht.up (by assumption) (by omega))); omega; assumption; (first | assumption | omega); (first | assumption | omega)) | ((with_reducible apply x_aB); rfl; omega; omega; omega; omega) | ((with_reducible apply x_sZ); rfl; omega; omega; omega; omega) | ((with_reducible refine x_nz ?_ ?_ ?_ ?_); omega; omega; omega) | ((with_reducible refine x_nzl ?_ ?_ ?_ ?_); omega; omega; omega) | (with_reducible refine x_obs hq2 ?_) | (with_reducible refine x_lceq0 (by omega) (by omega) (fun h => ?_) (fun h => ?_)) | (simp (disch := omega) only [Int.cast_ofNat_Int, Int.natCast_add, Int.toNat_natCast, i32_add, i32_sub, i32_mul, i32_neg, i32_lit, i64_add, i64_sub, i64_mul, i64_neg, i64_lit, i64_int, h3, hg, i32_long, up_self, up_q, up_k]))
    all_goals (try omega)
    · rw [if_pos h] at hQ; exact hQ
    · rw [if_neg h] at hQ; exact hQ
end H58
