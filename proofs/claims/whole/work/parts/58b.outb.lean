/-! ===== the class writes a number, a name, a quoted word ===== -/
section Out58b
variable {e : Nat} {I J : IM} {Q : Post} {V : Vw} {H : Hw} {a b c v : Int} {l : List Int}
theorem dg_one {q : Nat} (h : q < 10) : dg 10 q = [48 + (q : Int)] := by
  have e2 : dg 10 q = if q ≤ 9 then [48 + (q : Int)] else dg 9 (q / 10) ++ [48 + ((q % 10 : Nat) : Int)] := rfl
  rw [e2, if_pos (by omega)]
theorem dg_step {q : Nat} (h : 10 ≤ q) (h2 : q < 10 ^ 10) : dg 10 q = dg 10 (q / 10) ++ [48 + ((q % 10 : Nat) : Int)] := by
  have e2 : dg 10 q = if q ≤ 9 then [48 + (q : Int)] else dg 9 (q / 10) ++ [48 + ((q % 10 : Nat) : Int)] := rfl
  rw [e2, if_neg (by omega), dg_more 9 (q / 10) (by omega) (by omega)]
theorem sp_X7_addNumber (hv : -2147483648 < v ∧ v < 2147483648) (hT : Tx I 3 4 l) (hl : l.length + 12 ≤ 400) (hQ : ∀ I' : IM, Ox I I' → Tx I' 3 4 (l ++ num v) → Q (.inl none) (ME e I' J)) : SX7_addNumber [.ref 3, .int (i32 v)] (ME e I J) Q := by
  refine x_in (Nat.le_of_ble_eq_true rfl) ?_
  dsimp only [bX7_addNumber, bX7_addNumber_0]
  ((try rw [show (0 : Int32) = i32 (0) from rfl]); (try rw [show (45 : Int32) = i32 (45) from rfl]); (try simp only [i32_add, i32_sub, i32_mul, i32_neg]))
  -- the digits
  have key : ∀ (I1 : IM) (l1 : List Int) (n : Nat), n < 2147483648 → Ox I I1 → Tx I1 3 4 l1 → l1.length + 11 ≤ 400 → l1 ++ dg 10 n = l ++ num v → fx bX7_addNumber 2 [.ref 3, .long (i64 n), .long (i64 1000000000), .int (i32 0), .int (i32 0)] (ME e I1 J) Q := by
    intro I1 l1 n hn f1 T1 hl1 hl2
    refine x_for 10 (fun i a μ => ∃ (I2 : IM) (l2 : List Int) (b : Int), a = [.ref 3, .long (i64 n), .long (i64 ((10 ^ (10 - i) / 10 : Nat) : Int)), .int (i32 b), .int (i32 i)] ∧ μ = ME e I2 J ∧ Ox I I2 ∧ Tx I2 3 4 (l1 ++ l2) ∧ (b = 0 ∧ l2 = [] ∧ n / 10 ^ (10 - i) = 0 ∧ i < 10 ∨ b = 1 ∧ l2 = dg 10 (n / 10 ^ (10 - i)) ∧ (0 < n / 10 ^ (10 - i) ∨ i = 10))) ?_ ?_ (Nat.zero_le 10) ⟨I1, [], 0, rfl, rfl, f1, by rwa [List.append_nil], Or.inl ⟨rfl, rfl, Nat.div_eq_of_lt (by omega), by omega⟩⟩
    · rintro i a μ hi ⟨I2, l2, b, rfl, rfl, f2, T2, hb⟩ hJ
      dsimp only [bX7_addNumber, bX7_addNumber_2]
      obtain ⟨p, hp⟩ : ∃ p, p = 10 ^ (9 - i) := ⟨_, rfl⟩
      have hp1 : 10 ^ (10 - i) = p * 10 := by rw [hp, ← Nat.pow_succ]; congr 1; omega
      have p1 : 1 ≤ p := by rw [hp]; exact Nat.pow_pos (by omega)
      have p2 : p ≤ 1000000000 := by rw [hp]; exact Nat.pow_le_pow_right (n := 10) (i := 9 - i) (j := 9) (by omega) (by omega)
      have p3 : i = 9 → p = 1 := fun h => by rw [hp, h]
      have p4 : p = 1 → i = 9 := fun h => by
        by_cases h2 : i = 9
        · exact h2
        · have := Nat.pow_le_pow_right (n := 10) (i := 1) (j := 9 - i) (by omega) (by omega)
          omega
      obtain ⟨q, hq⟩ : ∃ q, q = n / p := ⟨_, rfl⟩
      have hq1 : n / 10 ^ (10 - i) = q / 10 := by rw [hp1, hq, Nat.div_div_eq_div_mul]
      have hq2 : q ≤ n := by rw [hq]; exact Nat.div_le_self _ _
      have hU : 10 ^ (10 - i) / 10 = p := by rw [hp1]; omega
      have hq3 : q < 10 ^ 10 := by omega
      have hU2 : 10 ^ (10 - (i + 1)) / 10 = p / 10 := by rw [show 10 - (i + 1) = 9 - i by omega, hp]
      have hn2 : n / 10 ^ (10 - (i + 1)) = q := by rw [show 10 - (i + 1) = 9 - i by omega, hq, hp]
      rw [hq1] at hb
      rw [hU]
      have d1 : i64 n / i64 p = i64 q := by
        rw [i64_div (by omega) (by omega) (by omega) (by omega), Int.tdiv_eq_ediv_of_nonneg (by omega), hq]
        congr 1
      have d2 : (i64 n / i64 p - i64 n / i64 p / 10 * 10).toInt32 = i32 ((q % 10 : Nat) : Int) := by
        rw [d1, show (10 : Int64) = i64 10 from rfl, i64_div (by omega) (by omega) (by omega) (by omega), Int.tdiv_eq_ediv_of_nonneg (by omega), i64_mul, i64_sub, i64_int]
        congr 1
        omega
      have d3 : i64 (p : Int) / (10 : Int64) = i64 ((p / 10 : Nat) : Int) := by
        rw [show (10 : Int64) = i64 10 from rfl, i64_div (by omega) (by omega) (by omega) (by omega), Int.tdiv_eq_ediv_of_nonneg (by omega)]
        congr 1
      rw [d2, d3, show (10 : Int32) = i32 10 from rfl, show (10 : Int64) = i64 10 from rfl, show (0 : Int64) = i64 0 from rfl, show (1 : Int64) = i64 1 from rfl, show (0 : Int32) = i32 0 from rfl, show (1 : Int32) = i32 1 from rfl, i32_add]
      have hl3 : l2.length ≤ 10 := by
        rcases hb with ⟨_, h, _⟩ | ⟨_, h, _⟩
        · rw [h]; simp
        · rw [h]; exact dg_len 10 _
      -- a digit is written
      have j3 : (b = 1 ∨ 0 < q % 10 ∨ p = 1) → fx bX7_addNumber 3 [.ref 3, .long (i64 n), .long (i64 p), .int (i32 i), .int (i32 ((q % 10 : Nat) : Int))] (ME e I2 J) Q := by
        intro hw
        refine fx_in ?_
        dsimp only [bX7_addNumber, bX7_addNumber_3]
        rw [show (48 : Int32) = i32 48 from rfl, i32_add, d3, show (10 : Int64) = i64 10 from rfl, show (1 : Int32) = i32 1 from rfl, show (0 : Int32) = i32 0 from rfl, i32_add]
        refine x_eq (by omega) (by omega) (fun h => by omega) (fun _ => x_ob rfl (x_cV (o_add T2 (by simp; omega) (by omega) fun I3 f3 T3 => x_nzl (by omega) (by omega) (by omega) (x_lJ ?_))))
        refine hJ _ _ ⟨I3, dg 10 q, 1, ?_, rfl, f2.trans f3, ?_, Or.inr ⟨rfl, by rw [hn2], ?_⟩⟩
        · rw [hU2]; rfl
        · rw [List.append_assoc] at T3
          rw [show l2 ++ [48 + ((q % 10 : Nat) : Int)] = dg 10 q from ?_] at T3
          · exact T3
          · rcases hb with ⟨h1, h2, h3, h4⟩ | ⟨h1, h2, h3⟩
            · rw [h2, dg_one (by omega), List.nil_append, Nat.mod_eq_of_lt (by omega)]
            · rw [h2, ← dg_step (by omega) (by omega)]
        · rw [hn2]
          rcases hw with h | h | h
          · rcases hb with h2 | h2 <;> omega
          · omega
          · have := p4 h; omega
      refine x_le (by omega) (by omega) (fun h => by omega) (fun _ => x_lcle (by omega) (by omega) (fun h => by omega) (fun _ => x_nzl (by omega) (by omega) (by omega) (x_nzl (by omega) (by omega) (by omega) (x_lI ?_))))
      refine x_eq (by omega) (by omega) (fun hb0 => ?_) (fun hb1 => ?_)
      · refine x_lt (by omega) (by omega) (fun h => j3 (Or.inr (Or.inl (by omega)))) (fun h => x_lceq (by omega) (by omega) (fun h2 => j3 (Or.inr (Or.inr (by omega)))) (fun h2 => ?_))
        refine x_eq (by omega) (by omega) (fun _ => x_nzl (by omega) (by omega) (by omega) (x_lJ ?_)) (fun h => absurd rfl h)
        rcases hb with ⟨h1, h3, h4, h5⟩ | ⟨h1, _⟩
        · refine hJ _ _ ⟨I2, [], 0, ?_, rfl, f2, by rw [h3] at T2; exact T2, Or.inl ⟨rfl, rfl, by rw [hn2]; omega, ?_⟩⟩
          · rw [hU2]; rfl
          · by_cases h9 : i = 9
            · have := p3 h9; omega
            · omega
        · omega
      · rcases hb with ⟨h1, _⟩ | ⟨h1, _⟩
        · omega
        · exact j3 (Or.inl h1)
    · rintro a μ ⟨I2, l2, b, rfl, rfl, f2, T2, hb⟩
      dsimp only [bX7_addNumber, bX7_addNumber_2]
      refine x_br (fun _ => x_rV ?_) (fun h => absurd (by decide) h)
      rcases hb with ⟨_, _, _, h⟩ | ⟨_, h, _⟩
      · omega
      · refine hQ I2 f2 ?_
        rw [h] at T2
        rw [show n / 10 ^ (10 - 10) = n by simp] at T2
        rwa [hl2] at T2
  have key2 : ∀ (I1 : IM) (l1 : List Int), Ox I I1 → Tx I1 3 4 l1 → l1.length + 11 ≤ 400 → l1 ++ dg 10 v.natAbs = l ++ num v → fx bX7_addNumber 1 [.ref 3, .int (i32 v)] (ME e I1 J) Q := by
    intro I1 l1 f1 T1 h1 h2
    refine fx_in ?_
    dsimp only [bX7_addNumber, bX7_addNumber_1]
    rw [i32_long (by omega) (by omega), i64_neg]
    ((try rw [show (0 : Int32) = i32 (0) from rfl]); (try simp only [i32_add, i32_sub, i32_mul, i32_neg]))
    refine x_le (by omega) (by omega) (fun h => x_lJ ?_) (fun h => x_lJ ?_)
    · have := key I1 l1 v.natAbs (by omega) f1 T1 h1 h2
      rwa [show ((v.natAbs : Nat) : Int) = v by omega] at this
    · have := key I1 l1 v.natAbs (by omega) f1 T1 h1 h2
      rwa [show ((v.natAbs : Nat) : Int) = -v by omega] at this
  refine x_le (by omega) (by omega) (fun h => ?_) (fun h => ?_)
  · refine key2 I l (Ox.refl I) hT (by omega) ?_
    unfold num; rw [if_neg (by omega)]; rfl
  · refine x_ob rfl (x_cV (o_add hT (by omega) (by omega) fun I1 f1 T1 => key2 I1 _ f1 T1 (by simp; omega) ?_))
    unfold num; rw [if_pos (by omega), List.append_assoc]
end Out58b
