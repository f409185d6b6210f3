/-! ===== a State's own ===== -/
theorem cpR {e q q2 n n2 : Nat} {I J : IM} {Q : Post} (h1 : kb q = (1, n)) (h2 : kb q2 = (1, n)) (hne : q2 ≠ q) (h5 : (n : Int) < 2147483648)
    (hQ : ∀ I' : IM, (∀ p, p ≠ q → I' p = I p) → (∀ k : Int, 0 ≤ k → k < n → I' q k = I q2 k) → Q (.inl none) (ME e I' J)) : SX10_copyRow [.ref q, .ref q2] (ME e I J) Q :=
  sp_X10_copyRow (n2 := n) h1 h2 hne h5 (hQ _ (fun p h => rowF_ne h) (fun k a b => by rw [rowF_self, if_pos ⟨a, b⟩]))
theorem flR {e q n : Nat} {v : Int} {I J : IM} {Q : Post} (h1 : kb q = (1, n)) (h5 : (n : Int) < 2147483648)
    (hQ : ∀ I' : IM, (∀ p, p ≠ q → I' p = I p) → (∀ k : Int, 0 ≤ k → k < n → I' q k = v) → Q (.inl none) (ME e I' J)) : SX10_fill [.ref q, .int (i32 v)] (ME e I J) Q :=
  sp_X10_fill (n := n) h1 h5 (hQ _ (fun p h => rowF_ne h) (fun k a b => by rw [rowF_self, if_pos ⟨a, b⟩]))
theorem st_sep {q q2 : Nat} (h : q ∈ stLs) (h2 : q2 ∈ stLs) (hne : q ≠ q2) : q + 11 ≤ q2 ∨ q2 + 11 ≤ q := by
  simp only [stLs, List.mem_cons, List.not_mem_nil, or_false] at h h2
  omega
/-- a State is another's copy -/
def CpS (I' I : IM) (q q2 : Nat) : Prop :=
  I' q 1 = I q2 1 ∧ I' q 2 = I q2 2 ∧ I' q 6 = I q2 6 ∧ (∀ k : Int, 0 ≤ k → k < 4 → I' (q + 1) k = I (q2 + 1) k) ∧
  (∀ k : Int, 0 ≤ k → k < 12 → I' (q + 2) k = I (q2 + 2) k ∧ I' (q + 3) k = I (q2 + 3) k ∧ I' (q + 4) k = I (q2 + 4) k) ∧
  (∀ k : Int, 0 ≤ k → k < 40 → I' (q + 5) k = I (q2 + 5) k ∧ I' (q + 6) k = I (q2 + 6) k ∧ I' (q + 7) k = I (q2 + 7) k ∧ I' (q + 8) k = I (q2 + 8) k ∧ I' (q + 9) k = I (q2 + 9) k ∧ I' (q + 10) k = I (q2 + 10) k)
theorem CpS.Rst {I' I : IM} {q q2 : Nat} {V : Vw} (h : CpS I' I q q2) (hR : Rst I q2 V) (hn : vn V ≤ 40) : Rst I' q V := by
  have s : ∀ k : Int, 0 ≤ k → k < vn V → 0 ≤ k ∧ k < 40 := fun k a b => ⟨a, by omega⟩
  obtain ⟨c1, c2, c6, r1, r2, r3⟩ := h
  refine ⟨fun k a b => by rw [r1 k a b]; exact R_set hR a b, by rw [c1]; exact R_told hR, fun h => by rw [c2]; exact R_err hR h, by rw [c6]; exact R_n hR, ?_⟩
  have t := hR.2.2.2.2
  refine ⟨t.1, t.2.1, t.2.2.1, fun k a b => ?_, fun k a b => ?_, fun k a b => ?_, fun k a b => ?_, fun k a b => ?_, fun k a b => ?_⟩
  · rw [(r3 k a (by omega)).1]; exact R_s0 hR a b
  · rw [(r3 k a (by omega)).2.1]; exact R_s1 hR a b
  · rw [(r3 k a (by omega)).2.2.1]; exact R_s2 hR a b
  · rw [(r3 k a (by omega)).2.2.2.1]; exact R_s3 hR a b
  · rw [(r3 k a (by omega)).2.2.2.2.1]; exact R_s4 hR a b
  · rw [(r3 k a (by omega)).2.2.2.2.2]; exact R_s5 hR a b
theorem CpS.Rht {I' I : IM} {q q2 : Nat} {H : Hw} (h : CpS I' I q q2) (hR : Rht I q2 H) : Rht I' q H := by
  intro k a b
  have t := h.2.2.2.2.1 k a b
  have u := hR k a b
  rw [t.1, t.2.1, t.2.2]
  exact u
section St63
variable {e : Nat} {I J : IM} {Q : Post} {V : Vw} {H : Hw} {s v a b : Int}
theorem sp_X6_copyFrom {q q2 : Nat} (hq : q ∈ stLs) (hq2 : q2 ∈ stLs) (hne : q ≠ q2) (hz : I q2 1 = 0 ∨ I q2 1 = 1)
    (hQ : ∀ I' : IM, (∀ p, p < q ∨ q + 10 < p → I' p = I p) → CpS I' I q q2 → Q (.inl none) (ME e I' J)) : SX6_copyFrom [.ref q, .ref q2] (ME e I J) Q := by
  refine x_in (Nat.le_of_ble_eq_true rfl) ?_
  dsimp only [bX6_copyFrom, bX6_copyFrom_0]
  have sep := st_sep hq hq2 hne
  have a := kb_st q hq
  have b := kb_st q2 hq2
  refine x_gRs hq rfl (x_gRs hq2 rfl (x_cV (cpR (n2 := 4) (a.2.1) (b.2.1) (by omega) (by omega) fun I1 f1 r1 => ?_)))
  refine x_gIs hq2 ?_
  rw [show I1 q2 ((1 : Nat) : Int) = I q2 1 by rw [f1 q2 (by omega)]; rfl]
  refine x_pZs hq hz ?_
  rw [show (((1 : Nat) : Int)) = 1 from rfl]
  have f2 : ∀ p, p ≠ q → up I1 q 1 (I q2 1) p = I1 p := fun p h => up_qf h
  have r2 : up I1 q 1 (I q2 1) q 1 = I q2 1 := up_self
  have g2 : ∀ k, k ≠ 1 → up I1 q 1 (I q2 1) q k = I1 q k := fun k h => up_k h
  generalize up I1 q 1 (I q2 1) = I2 at f2 r2 g2 ⊢
  refine x_gIs hq2 ?_
  rw [show I2 q2 ((2 : Nat) : Int) = I q2 2 by rw [f2 q2 (by omega), f1 q2 (by omega)]; rfl]
  refine x_pIs hq ?_
  rw [show (((2 : Nat) : Int)) = 2 from rfl]
  have f3 : ∀ p, p ≠ q → up I2 q 2 (I q2 2) p = I2 p := fun p h => up_qf h
  have r3 : up I2 q 2 (I q2 2) q 2 = I q2 2 := up_self
  have g3 : ∀ k, k ≠ 2 → up I2 q 2 (I q2 2) q k = I2 q k := fun k h => up_k h
  generalize up I2 q 2 (I q2 2) = I3 at f3 r3 g3 ⊢
  refine x_gRs hq rfl (x_gRs hq2 rfl (x_cV (cpR (n2 := 12) (a.2.2.1 2 (by omega) (by omega)) (b.2.2.1 2 (by omega) (by omega)) (by omega) (by omega) fun I4 f4 r4 => ?_)))
  refine x_gRs hq rfl (x_gRs hq2 rfl (x_cV (cpR (n2 := 12) (a.2.2.1 3 (by omega) (by omega)) (b.2.2.1 3 (by omega) (by omega)) (by omega) (by omega) fun I5 f5 r5 => ?_)))
  refine x_gRs hq rfl (x_gRs hq2 rfl (x_cV (cpR (n2 := 12) (a.2.2.1 4 (by omega) (by omega)) (b.2.2.1 4 (by omega) (by omega)) (by omega) (by omega) fun I6 f6 r6 => ?_)))
  refine x_gIs hq2 ?_
  rw [show I6 q2 ((6 : Nat) : Int) = I q2 6 by rw [f6 q2 (by omega), f5 q2 (by omega), f4 q2 (by omega), f3 q2 (by omega), f2 q2 (by omega), f1 q2 (by omega)]; rfl]
  refine x_pIs hq ?_
  rw [show (((6 : Nat) : Int)) = 6 from rfl]
  have f7 : ∀ p, p ≠ q → up I6 q 6 (I q2 6) p = I6 p := fun p h => up_qf h
  have r7 : up I6 q 6 (I q2 6) q 6 = I q2 6 := up_self
  have g7 : ∀ k, k ≠ 6 → up I6 q 6 (I q2 6) q k = I6 q k := fun k h => up_k h
  generalize up I6 q 6 (I q2 6) = I7 at f7 r7 g7 ⊢
  refine x_gRs hq rfl (x_gRs hq2 rfl (x_cV (cpR (n2 := 40) (a.2.2.2.1 5 (by omega) (by omega)) (b.2.2.2.1 5 (by omega) (by omega)) (by omega) (by omega) fun I8 f8 r8 => ?_)))
  refine x_gRs hq rfl (x_gRs hq2 rfl (x_cV (cpR (n2 := 40) (a.2.2.2.1 6 (by omega) (by omega)) (b.2.2.2.1 6 (by omega) (by omega)) (by omega) (by omega) fun I9 f9 r9 => ?_)))
  refine x_gRs hq rfl (x_gRs hq2 rfl (x_cV (cpR (n2 := 40) (a.2.2.2.1 7 (by omega) (by omega)) (b.2.2.2.1 7 (by omega) (by omega)) (by omega) (by omega) fun I10 f10 r10 => ?_)))
  refine x_gRs hq rfl (x_gRs hq2 rfl (x_cV (cpR (n2 := 40) (a.2.2.2.1 8 (by omega) (by omega)) (b.2.2.2.1 8 (by omega) (by omega)) (by omega) (by omega) fun I11 f11 r11 => ?_)))
  refine x_gRs hq rfl (x_gRs hq2 rfl (x_cV (cpR (n2 := 40) (a.2.2.2.1 9 (by omega) (by omega)) (b.2.2.2.1 9 (by omega) (by omega)) (by omega) (by omega) fun I12 f12 r12 => ?_)))
  refine x_gRs hq rfl (x_gRs hq2 rfl (x_cV (cpR (n2 := 40) (a.2.2.2.1 10 (by omega) (by omega)) (b.2.2.2.1 10 (by omega) (by omega)) (by omega) (by omega) fun I13 f13 r13 => ?_)))
  refine x_rV (hQ I13 (fun p h => ?_) ⟨?_, ?_, ?_, fun k h0 h1 => ?_, fun k h0 h1 => ⟨?_, ?_, ?_⟩, fun k h0 h1 => ⟨?_, ?_, ?_, ?_, ?_, ?_⟩⟩)
  · rw [f13 p (by omega), f12 p (by omega), f11 p (by omega), f10 p (by omega), f9 p (by omega), f8 p (by omega), f7 p (by omega), f6 p (by omega), f5 p (by omega), f4 p (by omega), f3 p (by omega), f2 p (by omega), f1 p (by omega)]
  · rw [f13 q (by omega), f12 q (by omega), f11 q (by omega), f10 q (by omega), f9 q (by omega), f8 q (by omega), g7 _ (by omega), f6 q (by omega), f5 q (by omega), f4 q (by omega), g3 _ (by omega), r2]
  · rw [f13 q (by omega), f12 q (by omega), f11 q (by omega), f10 q (by omega), f9 q (by omega), f8 q (by omega), g7 _ (by omega), f6 q (by omega), f5 q (by omega), f4 q (by omega), r3]
  · rw [f13 q (by omega), f12 q (by omega), f11 q (by omega), f10 q (by omega), f9 q (by omega), f8 q (by omega), r7]
  · rw [f13 (q + 1) (by omega), f12 (q + 1) (by omega), f11 (q + 1) (by omega), f10 (q + 1) (by omega), f9 (q + 1) (by omega), f8 (q + 1) (by omega), f7 (q + 1) (by omega), f6 (q + 1) (by omega), f5 (q + 1) (by omega), f4 (q + 1) (by omega), f3 (q + 1) (by omega), f2 (q + 1) (by omega), r1 k h0 h1]
  · rw [f13 (q + 2) (by omega), f12 (q + 2) (by omega), f11 (q + 2) (by omega), f10 (q + 2) (by omega), f9 (q + 2) (by omega), f8 (q + 2) (by omega), f7 (q + 2) (by omega), f6 (q + 2) (by omega), f5 (q + 2) (by omega), r4 k h0 h1, f3 (q2 + 2) (by omega), f2 (q2 + 2) (by omega), f1 (q2 + 2) (by omega)]
  · rw [f13 (q + 3) (by omega), f12 (q + 3) (by omega), f11 (q + 3) (by omega), f10 (q + 3) (by omega), f9 (q + 3) (by omega), f8 (q + 3) (by omega), f7 (q + 3) (by omega), f6 (q + 3) (by omega), r5 k h0 h1, f4 (q2 + 3) (by omega), f3 (q2 + 3) (by omega), f2 (q2 + 3) (by omega), f1 (q2 + 3) (by omega)]
  · rw [f13 (q + 4) (by omega), f12 (q + 4) (by omega), f11 (q + 4) (by omega), f10 (q + 4) (by omega), f9 (q + 4) (by omega), f8 (q + 4) (by omega), f7 (q + 4) (by omega), r6 k h0 h1, f5 (q2 + 4) (by omega), f4 (q2 + 4) (by omega), f3 (q2 + 4) (by omega), f2 (q2 + 4) (by omega), f1 (q2 + 4) (by omega)]
  · rw [f13 (q + 5) (by omega), f12 (q + 5) (by omega), f11 (q + 5) (by omega), f10 (q + 5) (by omega), f9 (q + 5) (by omega), r8 k h0 h1, f7 (q2 + 5) (by omega), f6 (q2 + 5) (by omega), f5 (q2 + 5) (by omega), f4 (q2 + 5) (by omega), f3 (q2 + 5) (by omega), f2 (q2 + 5) (by omega), f1 (q2 + 5) (by omega)]
  · rw [f13 (q + 6) (by omega), f12 (q + 6) (by omega), f11 (q + 6) (by omega), f10 (q + 6) (by omega), r9 k h0 h1, f8 (q2 + 6) (by omega), f7 (q2 + 6) (by omega), f6 (q2 + 6) (by omega), f5 (q2 + 6) (by omega), f4 (q2 + 6) (by omega), f3 (q2 + 6) (by omega), f2 (q2 + 6) (by omega), f1 (q2 + 6) (by omega)]
  · rw [f13 (q + 7) (by omega), f12 (q + 7) (by omega), f11 (q + 7) (by omega), r10 k h0 h1, f9 (q2 + 7) (by omega), f8 (q2 + 7) (by omega), f7 (q2 + 7) (by omega), f6 (q2 + 7) (by omega), f5 (q2 + 7) (by omega), f4 (q2 + 7) (by omega), f3 (q2 + 7) (by omega), f2 (q2 + 7) (by omega), f1 (q2 + 7) (by omega)]
  · rw [f13 (q + 8) (by omega), f12 (q + 8) (by omega), r11 k h0 h1, f10 (q2 + 8) (by omega), f9 (q2 + 8) (by omega), f8 (q2 + 8) (by omega), f7 (q2 + 8) (by omega), f6 (q2 + 8) (by omega), f5 (q2 + 8) (by omega), f4 (q2 + 8) (by omega), f3 (q2 + 8) (by omega), f2 (q2 + 8) (by omega), f1 (q2 + 8) (by omega)]
  · rw [f13 (q + 9) (by omega), r12 k h0 h1, f11 (q2 + 9) (by omega), f10 (q2 + 9) (by omega), f9 (q2 + 9) (by omega), f8 (q2 + 9) (by omega), f7 (q2 + 9) (by omega), f6 (q2 + 9) (by omega), f5 (q2 + 9) (by omega), f4 (q2 + 9) (by omega), f3 (q2 + 9) (by omega), f2 (q2 + 9) (by omega), f1 (q2 + 9) (by omega)]
  · rw [r13 k h0 h1, f12 (q2 + 10) (by omega), f11 (q2 + 10) (by omega), f10 (q2 + 10) (by omega), f9 (q2 + 10) (by omega), f8 (q2 + 10) (by omega), f7 (q2 + 10) (by omega), f6 (q2 + 10) (by omega), f5 (q2 + 10) (by omega), f4 (q2 + 10) (by omega), f3 (q2 + 10) (by omega), f2 (q2 + 10) (by omega), f1 (q2 + 10) (by omega)]
theorem sp_X6_ones {q n m : Nat} (h1 : kb q = (1, n)) (hn : (n : Int) < 2147483648) (hm : m ≤ n) {p : Int → Bool} (hp : ∀ k : Nat, k < m → (p k = true ↔ I q k = 1)) (hb : ∀ k : Nat, k < m → -2147483648 ≤ I q k ∧ I q k < 2147483648)
    (hQ : Q (.inl (some (.int (i32 (ct p m : Nat))))) (ME e I J)) : SX6_ones [.ref q, .int (i32 m)] (ME e I J) Q := by
  refine x_in (Nat.le_of_ble_eq_true rfl) ?_
  dsimp only [bX6_ones, bX6_ones_0]
  refine x_forD m (fun i => [.ref q, .int (i32 m), .int (i32 (ct p i : Nat)), .int (i32 i)]) (fun i => ME e I J) ?_ ?_ (Nat.zero_le _) (by simp [Int.cast_ofNat_Int, Int.natCast_add, Int.toNat_natCast, i32_add, i32_sub, i32_mul, i32_neg, i32_lit, i64_add, i64_sub, i64_mul, i64_neg, i64_lit, i64_int, ct]) rfl
  · intro i hi hJ
    dsimp only [bX6_ones, bX6_ones_1]
    have c := hp i hi
    have bb := hb i hi
    have s : ct p (i + 1) = ct p i + (if p i = true then 1 else 0) := rfl
    rw [s] at hJ
    (repeat' first | ((with_reducible apply x_gR); rfl; rfl) | ((with_reducible apply x_gRs hq); rfl) | ((with_reducible refine x_gI ?_ ?_); rfl; try simp only [Int.cast_ofNat_Int]) | ((with_reducible refine x_gIs hq ?_); try simp only [Int.cast_ofNat_Int]) | ((with_reducible refine x_ob ?_ ?_); rfl) | (with_reducible refine x_obs hq ?_) | (with_reducible refine x_lI ?_) | (with_reducible refine x_lJ ?_) | (with_reducible refine x_le (by omega) (by omega) (fun h => ?_) (fun h => ?_)) | (with_reducible refine x_lt (by omega) (by omega) (fun h => ?_) (fun h => ?_)) | (with_reducible refine x_eq (by omega) (by omega) (fun h => ?_) (fun h => ?_)) | (with_reducible refine x_brT ?_) | (with_reducible refine x_brF ?_) | (with_reducible refine x_rI ?_) | (with_reducible refine x_rV ?_) | (with_reducible refine x_rJ ?_) | (with_reducible refine x_rZ (by omega) ?_) | (with_reducible refine x_rO ?_) | (with_reducible refine x_thr ?_) | ((with_reducible refine x_pI ?_ ?_); rfl; try simp only [Int.cast_ofNat_Int]) | ((with_reducible refine x_pIs hq ?_); try simp only [Int.cast_ofNat_Int]) | ((with_reducible refine x_pZ ?_ (by omega) ?_); rfl; try simp only [Int.cast_ofNat_Int]) | ((with_reducible refine x_pZs hq (by omega) ?_); try simp only [Int.cast_ofNat_Int]) | (with_reducible refine x_pR ?_) | ((with_reducible apply x_aI); (first | assumption | rfl | exact (kb_st _ hq).2.1 | exact (kb_st _ hq).2.2.1 _ (by omega) (by omega) | exact (kb_st _ hq).2.2.2.1 _ (by omega) (by omega)); omega; omega; omega) | ((with_reducible apply x_sA); (first | assumption | rfl | exact (kb_st _ hq).2.1 | exact (kb_st _ hq).2.2.1 _ (by omega) (by omega) | exact (kb_st _ hq).2.2.2.1 _ (by omega) (by omega)); omega; omega; omega) | ((with_reducible apply x_aL); (first | assumption | rfl | exact (kb_st _ hq).2.1 | exact (kb_st _ hq).2.2.1 _ (by omega) (by omega) | exact (kb_st _ hq).2.2.2.1 _ (by omega) (by omega)); omega) | ((with_reducible apply x_cI); (with_reducible apply sp_X10_cell); (first | assumption | rfl | exact (kb_st _ hq).2.1 | exact (kb_st _ hq).2.2.1 _ (by omega) (by omega) | exact (kb_st _ hq).2.2.2.1 _ (by omega) (by omega)); omega; omega; omega; omega) | ((with_reducible apply x_aB); rfl; omega; omega; omega; omega) | ((with_reducible apply x_sZ); rfl; omega; omega; omega; omega) | ((with_reducible refine x_nz ?_ ?_ ?_ ?_); omega; omega; omega) | ((with_reducible refine x_nzl ?_ ?_ ?_ ?_); omega; omega; omega) | (simp (disch := omega) only [Int.cast_ofNat_Int, Int.natCast_add, Int.toNat_natCast, i32_add, i32_sub, i32_mul, i32_neg, i32_lit, i64_add, i64_sub, i64_mul, i64_neg, i64_lit, i64_int, i32_long, up_self, up_q, up_k]))
    all_goals (try omega)
    · rw [if_pos (c.mpr (by assumption))] at hJ; simpa only [Int.cast_ofNat_Int, Int.natCast_add, Int.toNat_natCast, i32_add, i32_sub, i32_mul, i32_neg, i32_lit, i64_add, i64_sub, i64_mul, i64_neg, i64_lit, i64_int, Int.natCast_one] using hJ
    · rw [if_neg (fun q => absurd (c.mp q) (by assumption)), Nat.add_zero] at hJ; simpa only [Int.cast_ofNat_Int, Int.natCast_add, Int.toNat_natCast, i32_add, i32_sub, i32_mul, i32_neg, i32_lit, i64_add, i64_sub, i64_mul, i64_neg, i64_lit, i64_int] using hJ
  · dsimp only [bX6_ones, bX6_ones_1]
    (repeat' first | ((with_reducible apply x_gR); rfl; rfl) | ((with_reducible apply x_gRs hq); rfl) | ((with_reducible refine x_gI ?_ ?_); rfl; try simp only [Int.cast_ofNat_Int]) | ((with_reducible refine x_gIs hq ?_); try simp only [Int.cast_ofNat_Int]) | ((with_reducible refine x_ob ?_ ?_); rfl) | (with_reducible refine x_obs hq ?_) | (with_reducible refine x_lI ?_) | (with_reducible refine x_lJ ?_) | (with_reducible refine x_le (by omega) (by omega) (fun h => ?_) (fun h => ?_)) | (with_reducible refine x_lt (by omega) (by omega) (fun h => ?_) (fun h => ?_)) | (with_reducible refine x_eq (by omega) (by omega) (fun h => ?_) (fun h => ?_)) | (with_reducible refine x_brT ?_) | (with_reducible refine x_brF ?_) | (with_reducible refine x_rI ?_) | (with_reducible refine x_rV ?_) | (with_reducible refine x_rJ ?_) | (with_reducible refine x_rZ (by omega) ?_) | (with_reducible refine x_rO ?_) | (with_reducible refine x_thr ?_) | ((with_reducible refine x_pI ?_ ?_); rfl; try simp only [Int.cast_ofNat_Int]) | ((with_reducible refine x_pIs hq ?_); try simp only [Int.cast_ofNat_Int]) | ((with_reducible refine x_pZ ?_ (by omega) ?_); rfl; try simp only [Int.cast_ofNat_Int]) | ((with_reducible refine x_pZs hq (by omega) ?_); try simp only [Int.cast_ofNat_Int]) | (with_reducible refine x_pR ?_) | ((with_reducible apply x_aI); (first | assumption | rfl | exact (kb_st _ hq).2.1 | exact (kb_st _ hq).2.2.1 _ (by omega) (by omega) | exact (kb_st _ hq).2.2.2.1 _ (by omega) (by omega)); omega; omega; omega) | ((with_reducible apply x_sA); (first | assumption | rfl | exact (kb_st _ hq).2.1 | exact (kb_st _ hq).2.2.1 _ (by omega) (by omega) | exact (kb_st _ hq).2.2.2.1 _ (by omega) (by omega)); omega; omega; omega) | ((with_reducible apply x_aL); (first | assumption | rfl | exact (kb_st _ hq).2.1 | exact (kb_st _ hq).2.2.1 _ (by omega) (by omega) | exact (kb_st _ hq).2.2.2.1 _ (by omega) (by omega)); omega) | ((with_reducible refine x_cI (sp_X6_counts hq ?_ hG ?_ ?_ ?_ ?_)); (first | exact hq | assumption); (focus (repeat' first | assumption | exact Rst.up (by assumption) (by omega) | refine Rst.up ?_ (by omega) | refine Rwl.up ?_ (by omega) | refine Rrw.up ?_ (by omega))); omega; omega) | ((with_reducible apply x_cI); (with_reducible apply sp_X10_cell); (first | assumption | rfl | exact (kb_st _ hq).2.1 | exact (kb_st _ hq).2.2.1 _ (by omega) (by omega) | exact (kb_st _ hq).2.2.2.1 _ (by omega) (by omega)); omega; omega; omega; omega) | ((with_reducible apply x_aB); rfl; omega; omega; omega; omega) | ((with_reducible apply x_sZ); rfl; omega; omega; omega; omega) | ((with_reducible refine x_nz ?_ ?_ ?_ ?_); omega; omega; omega) | ((with_reducible refine x_nzl ?_ ?_ ?_ ?_); omega; omega; omega) | (simp (disch := omega) only [Int.cast_ofNat_Int, Int.natCast_add, Int.toNat_natCast, i32_add, i32_sub, i32_mul, i32_neg, i32_lit, i64_add, i64_sub, i64_mul, i64_neg, i64_lit, i64_int, i32_long, up_self, up_q, up_k]))
    all_goals (first | omega | exact hQ)
def ctH (f : Int → Int) (n : Nat) : Nat := ct (fun k => decide (f k = 1)) n
theorem sp_X6_benches {q : Nat} (hq : q ∈ stLs) {m : Nat} (hGH : GoodH m H) (hH : Rht I q H) (hQ : Q (.inl (some (.int (i32 (ctH (hb H) 12 : Nat))))) (ME e I J)) : SX6_benches [.ref q] (ME e I J) Q := by
  refine x_in (Nat.le_of_ble_eq_true rfl) ?_
  dsimp only [bX6_benches, bX6_benches_0]
  have a := (kb_st q hq).2.2.1 2 (by omega) (by omega)
  have g : ∀ k : Nat, k < 12 → I (q + 2) k = hb H k ∧ (hb H k = 0 ∨ hb H k = 1) := fun k h => ⟨(hH k (by omega) (by omega)).1, (hGH k (by omega) (by omega)).1⟩
  rw [show (12 : Int32) = i32 ((12 : Nat) : Int) from rfl]
  refine x_gRs hq rfl (x_cI (sp_X6_ones (p := fun k => decide (hb H k = 1)) a (by omega) (by omega) (fun k h => ?_) (fun k h => ?_) (x_rI hQ)))
  · rw [(g k h).1]; simp
  · have := g k h; omega
theorem sp_X6_markedHeights {q : Nat} (hq : q ∈ stLs) {m : Nat} (hGH : GoodH m H) (hH : Rht I q H) (hQ : Q (.inl (some (.int (i32 (ctH (hh H) 12 : Nat))))) (ME e I J)) : SX6_markedHeights [.ref q] (ME e I J) Q := by
  refine x_in (Nat.le_of_ble_eq_true rfl) ?_
  dsimp only [bX6_markedHeights, bX6_markedHeights_0]
  have a := (kb_st q hq).2.2.1 3 (by omega) (by omega)
  have g : ∀ k : Nat, k < 12 → I (q + 3) k = hh H k ∧ (hh H k = 0 ∨ hh H k = 1) := fun k h => ⟨(hH k (by omega) (by omega)).2.1, (hGH k (by omega) (by omega)).2.1⟩
  rw [show (12 : Int32) = i32 ((12 : Nat) : Int) from rfl]
  refine x_gRs hq rfl (x_cI (sp_X6_ones (p := fun k => decide (hh H k = 1)) a (by omega) (by omega) (fun k h => ?_) (fun k h => ?_) (x_rI hQ)))
  · rw [(g k h).1]; simp
  · have := g k h; omega
theorem sp_X6_struckSights {q : Nat} (hq : q ∈ stLs) (hG : Good V) (hR : Rst I q V) (hQ : Q (.inl (some (.int (i32 (ctH (vG V 5) (vn V) : Nat))))) (ME e I J)) : SX6_struckSights [.ref q] (ME e I J) Q := by
  refine x_in (Nat.le_of_ble_eq_true rfl) ?_
  dsimp only [bX6_struckSights, bX6_struckSights_0]
  have a := (kb_st q hq).2.2.2.1 10 (by omega) (by omega)
  have hn := hG.2.1
  have g : ∀ k : Nat, k < vn V → I (q + 10) k = vG V 5 k ∧ (-5 ≤ vG V 5 k ∧ vG V 5 k ≤ 5) := fun k h => ⟨R_s5 hR (by omega) (by omega), by have := gd_s hG (s := (k : Int)) (by omega) (by omega); omega⟩
  refine x_gRs hq rfl (x_gIs hq ?_)
  rw [show I q ((6 : Nat) : Int) = ((vn V : Nat) : Int) from R_n hR]
  refine x_cI (sp_X6_ones (p := fun k => decide (vG V 5 k = 1)) a (by omega) (by omega) (fun k h => ?_) (fun k h => ?_) (x_rI hQ))
  · rw [(g k h).1]; simp
  · have := g k h; omega
end St63
