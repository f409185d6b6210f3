/-! ===== names and quoted words ===== -/
theorem i32_nat {b : Int} (h0 : 0 ≤ b) (h1 : b < 4294967296) : (i32 b).toBitVec.toNat = b.toNat := by
  show (BitVec.ofInt 32 b).toNat = _
  rw [BitVec.toNat_ofInt]
  omega
theorem i32_ushr {a : Int} (s : Nat) (hs : s < 32) (h0 : 0 ≤ a) (h1 : a < 4294967296) : ((Int32.toUInt32 (i32 a)) >>> ((Int32.toUInt32 (i32 s)) &&& Int32.toUInt32 31)).toInt32 = i32 (a / 2 ^ s) := by
  have e1 : ((Int32.toUInt32 (i32 s)) &&& Int32.toUInt32 31).toNat = s := by
    have key : ∀ k : Nat, k < 32 → ((Int32.toUInt32 (i32 k)) &&& Int32.toUInt32 31).toNat = k := by decide +kernel
    exact key s hs
  have p0 : (((2 : Nat) ^ s : Nat) : Int) = (2 : Int) ^ s := by simp
  have p1 : 1 ≤ 2 ^ s := Nat.pow_pos (by omega)
  have b1 : 0 ≤ a / 2 ^ s := Int.ediv_nonneg h0 (by omega)
  have b2 : a / 2 ^ s ≤ a := Int.ediv_le_self _ h0
  apply Int32.toBitVec_inj.mp
  apply BitVec.eq_of_toNat_eq
  rw [i32_nat b1 (by omega)]
  show ((Int32.toUInt32 (i32 a)) >>> ((Int32.toUInt32 (i32 s)) &&& Int32.toUInt32 31)).toNat = _
  rw [UInt32.toNat_shiftRight, e1, Nat.mod_eq_of_lt hs, Nat.shiftRight_eq_div_pow, show (Int32.toUInt32 (i32 a)).toNat = a.toNat from i32_nat h0 h1]
  obtain ⟨k, rfl⟩ : ∃ k : Nat, a = k := ⟨a.toNat, by omega⟩
  rw [← p0, Int.toNat_natCast, ← Int.natCast_ediv, Int.toNat_natCast]
section Out58c
variable {e : Nat} {I J : IM} {Q : Post} {V : Vw} {H : Hw} {a b c v : Int} {l : List Int}
/-- a letter of a name, from its end -/
theorem enc_digit {B : Nat} (hB : 2 ≤ B) : ∀ (k : Nat) (l l2 : List Nat), l2.length = k → (∀ c ∈ l2, 1 ≤ c ∧ c < B) → enc B (l ++ l2) / (B : Int) ^ k = enc B l := by
  intro k
  induction k with
  | zero => intro l l2 h _; rw [List.length_eq_zero_iff.mp h]; simp
  | succ k ih =>
    intro l l2 h h2
    rcases List.eq_nil_or_concat l2 with h3 | ⟨x, y, h3⟩
    · subst h3; simp at h
    · have h3 : l2 = x ++ [y] := by rw [h3]; simp
      subst h3
      have hy := h2 y (by simp)
      rw [← List.append_assoc, enc_snoc, Int.pow_succ, Int.mul_comm ((B : Int) ^ k), ← Int.ediv_ediv_of_nonneg (by omega)]
      rw [show ((B : Int) * enc B (l ++ x) + (y : Int)) / (B : Int) = enc B (l ++ x) by
        rw [Int.add_comm, Int.add_mul_ediv_left _ _ (by omega), Int.ediv_eq_zero_of_lt (by omega) (by omega)]; omega]
      exact ih l x (by simpa using h) (fun c hc => h2 c (List.mem_append_left _ hc))
theorem sp_X7_addWord {w : List Nat} (hw : okName w) (hT : Tx I 3 4 l) (hl : l.length + w.length ≤ 400) (hQ : ∀ I' : IM, Ox I I' → Tx I' 3 4 (l ++ nam w) → Q (.inl none) (ME e I' J)) : SX7_addWord [.ref 3, .int (i32 (enc 32 w))] (ME e I J) Q := by
  refine x_in (Nat.le_of_ble_eq_true rfl) ?_
  dsimp only [bX7_addWord, bX7_addWord_0]
  obtain ⟨w1, w2, w3⟩ := id hw
  have wb := enc_bd w hw
  refine x_for 6 (fun i a μ => ∃ I2 : IM, a = [.ref 3, .int (i32 (enc 32 w)), .int (i32 (5 - (i : Int)))] ∧ μ = ME e I2 J ∧ Ox I I2 ∧ Tx I2 3 4 (l ++ nam (w.take (w.length - (6 - i))))) ?_ ?_ (Nat.zero_le 6) ⟨I, rfl, rfl, Ox.refl I, by rw [show w.length - (6 - 0) = 0 by omega]; simpa [nam] using hT⟩
  · rintro i a μ hi ⟨I2, rfl, rfl, f2, T2⟩ hJ
    dsimp only [bX7_addWord, bX7_addWord_1]
    rw [show (5 : Int32) = i32 5 from rfl, i32_mul, show (5 : Int) * (5 - (i : Int)) = ((5 * (5 - i) : Nat) : Int) by omega, i32_ushr _ (by omega) wb.1 (by omega), show (31 : Int32) = i32 (2 ^ 5 - 1) from rfl, show (0 : Int32) = i32 0 from rfl, show (97 : Int32) = i32 97 from rfl, show (-1 : Int32) = i32 (-1) from rfl, show (1 : Int32) = i32 1 from rfl]
    have pp : (((2 : Nat) ^ (5 * (5 - i)) : Nat) : Int) = (2 : Int) ^ (5 * (5 - i)) := by simp
    have pp0 : 0 < 2 ^ (5 * (5 - i)) := Nat.pow_pos (by omega)
    have q0 : 0 ≤ enc 32 w / 2 ^ (5 * (5 - i)) := Int.ediv_nonneg wb.1 (by omega)
    have q1 : enc 32 w / 2 ^ (5 * (5 - i)) ≤ enc 32 w := Int.ediv_le_self _ wb.1
    rw [i32_and 5 (by omega) q0 (by omega), i32_add]
    have hp : (2 : Int) ^ (5 * (5 - i)) = ((32 : Nat) : Int) ^ (5 - i) := by rw [Int.pow_mul]; rfl
    rw [hp]
    refine x_lt (by omega) (by omega) (fun h => by omega) (fun _ => x_lI ?_)
    rw [i32_add, i32_sub]
    -- the next letter, if there is one
    by_cases hk : 6 - i ≤ w.length
    · have hj : w.length - (6 - i) < w.length := by omega
      have sp : w = w.take (w.length - (6 - i)) ++ (w.drop (w.length - (6 - i))) := (List.take_append_drop _ _).symm
      have sp2 : w = (w.take (w.length - (6 - i)) ++ [w[w.length - (6 - i)]]) ++ (w.drop (w.length - (6 - i) + 1)) := by
        conv => lhs; rw [sp, List.drop_eq_getElem_cons hj]
        simp
      have hd : enc 32 w / ((32 : Nat) : Int) ^ (5 - i) = enc 32 (w.take (w.length - (6 - i)) ++ [w[w.length - (6 - i)]]) := by
        conv => lhs; rw [sp2]
        exact enc_digit (B := 32) (by omega) (5 - i) _ _ (by simp; omega) (fun c hc => by have := w3 c (List.mem_of_mem_drop hc); omega)
      have hx := w3 _ (List.getElem_mem hj)
      have en := (enc_lt (B := 32) _ (w.take (w.length - (6 - i))) rfl (fun c hc => by have := w3 c (List.mem_of_mem_take hc); omega)).1
      have hm : enc 32 w / ((32 : Nat) : Int) ^ (5 - i) % 2 ^ 5 = (w[w.length - (6 - i)] : Int) := by
        rw [hd, enc_snoc]
        show (32 * _ + _) % 32 = _
        have en : 0 ≤ enc 32 (w.take (w.length - (6 - i))) := en
        omega
      rw [hm]
      refine x_le (by omega) (by omega) (fun h => by omega) (fun _ => x_ob rfl (x_cV (o_add T2 (by simp [nam]; omega) (by omega) fun I3 f3 T3 => hJ _ _ ⟨I3, ?_, rfl, f2.trans f3, ?_⟩)))
      · rw [show 5 - (i : Int) + (-1) = 5 - ((i + 1 : Nat) : Int) by omega]
      · rw [List.append_assoc] at T3
        rw [show w.length - (6 - (i + 1)) = w.length - (6 - i) + 1 by omega, ← List.take_append_getElem hj]
        rw [show nam (w.take (w.length - (6 - i)) ++ [w[w.length - (6 - i)]]) = nam (w.take (w.length - (6 - i))) ++ [97 + (w[w.length - (6 - i)] : Int) - 1] by unfold nam; rw [List.map_append]; congr 1; show [96 + (w[w.length - (6 - i)] : Int)] = _; congr 1; omega]
        exact T3
    · have hz : enc 32 w / ((32 : Nat) : Int) ^ (5 - i) = 0 := by
        refine Int.ediv_eq_zero_of_lt wb.1 ?_
        have := (enc_lt (B := 32) w.length w rfl (fun c hc => by have := w3 c hc; omega)).2
        refine Int.lt_of_lt_of_le this ?_
        have := Nat.pow_le_pow_right (n := 32) (i := w.length) (j := 5 - i) (by omega) (by omega)
        rw [← Int.natCast_pow, ← Int.natCast_pow]
        omega
      rw [hz, show (0 : Int) % 2 ^ 5 = 0 from rfl]
      refine x_le (by omega) (by omega) (fun _ => hJ _ _ ⟨I2, ?_, rfl, f2, ?_⟩) (fun h => by omega)
      · rw [show 5 - (i : Int) + (-1) = 5 - ((i + 1 : Nat) : Int) by omega]
      · rw [show w.length - (6 - (i + 1)) = 0 by omega]
        rw [show w.length - (6 - i) = 0 by omega] at T2
        exact T2
  · rintro a μ ⟨I2, rfl, rfl, f2, T2⟩
    dsimp only [bX7_addWord, bX7_addWord_1]
    refine x_br (fun _ => x_rV (hQ I2 f2 ?_)) (fun h => absurd (by decide) h)
    rw [show w.length - (6 - 6) = w.length by omega, List.take_length] at T2
    exact T2
def strI (i : Nat) : List Int := (scByt.getD i []).map Int32.toInt
theorem str_ok : ∀ i, 12 ≤ i → i < 17 → (strI i).length = scLen.getD i 0 ∧ scLen.getD i 0 ≤ 6 ∧ ∀ k, k < 6 → k < scLen.getD i 0 → (scByt.getD i []).getD k 0 = i32 ((strI i).getD k 0) ∧ 0 ≤ (strI i).getD k 0 ∧ (strI i).getD k 0 < 128 := by
  have key : ∀ i, i < 17 → 12 ≤ i → (strI i).length = scLen.getD i 0 ∧ scLen.getD i 0 ≤ 6 ∧ ∀ k, k < 6 → k < scLen.getD i 0 → (scByt.getD i []).getD k 0 = i32 ((strI i).getD k 0) ∧ 0 ≤ (strI i).getD k 0 ∧ (strI i).getD k 0 < 128 := by decide +kernel
  exact fun i a b => key i b a
theorem take_snoc {l : List Int} {k : Nat} (h : k < l.length) : l.take (k + 1) = l.take k ++ [l.getD k 0] := by
  rw [← List.take_append_getElem h, List.getD_eq_getElem?_getD, List.getElem?_eq_getElem h]
  rfl
theorem sp_X7_addText {i : Nat} (hi : 12 ≤ i ∧ i < 17) (hT : Tx I 3 4 l) (hl : l.length + 6 ≤ 400) (hQ : ∀ I' : IM, Ox I I' → Tx I' 3 4 (l ++ strI i) → Q (.inl none) (ME e I' J)) : SX7_addText [.ref 3, .ref (2000 + i)] (ME e I J) Q := by
  refine x_in (Nat.le_of_ble_eq_true rfl) ?_
  dsimp only [bX7_addText, bX7_addText_0]
  obtain ⟨s1, s2, s3⟩ := str_ok i hi.1 hi.2
  refine x_for (scLen.getD i 0) (fun k a μ => ∃ I2 : IM, a = [.ref 3, .ref (2000 + i), .int (i32 k)] ∧ μ = ME e I2 J ∧ Ox I I2 ∧ Tx I2 3 4 (l ++ (strI i).take k)) ?_ ?_ (Nat.zero_le _) ⟨I, rfl, rfl, Ox.refl I, by simpa using hT⟩
  · rintro k a μ hk ⟨I2, rfl, rfl, f2, T2⟩ hJ
    dsimp only [bX7_addText, bX7_addText_1]
    refine ⟨⟨i, by unfold scN; omega, rfl⟩, i, by unfold scN; omega, rfl, ?_⟩
    dsimp only
    rw [nI_i32]
    refine x_le (by omega) (by omega) (fun h => by omega) (fun _ => ⟨⟨i, by unfold scN; omega, rfl⟩, i, k, by unfold scN; omega, hk, by rw [nI_i32], ?_⟩)
    have s4 := s3 k (by omega) hk
    dsimp only
    rw [s4.1, show (1 : Int32) = i32 1 from rfl, i32_add]
    refine x_ob rfl (x_cV (o_add T2 (by simp; omega) (by omega) fun I3 f3 T3 => hJ _ _ ⟨I3, rfl, rfl, f2.trans f3, ?_⟩))
    rw [take_snoc (by omega), ← List.append_assoc]
    exact T3
  · rintro a μ ⟨I2, rfl, rfl, f2, T2⟩
    dsimp only [bX7_addText, bX7_addText_1]
    refine ⟨⟨i, by unfold scN; omega, rfl⟩, i, by unfold scN; omega, rfl, ?_⟩
    dsimp only
    rw [nI_i32]
    refine x_le (by omega) (by omega) (fun h => x_rV (hQ I2 f2 ?_)) (fun h => by omega)
    rw [← s1, List.take_length] at T2
    exact T2
theorem sp_X11_saysWord {i : Nat} (hi : 12 ≤ i ∧ i < 17) (hT : Ty I 31 216 l) (hl : l.length + 6 ≤ 400) (hQ : ∀ I' : IM, Oy I I' → Ty I' 31 216 (l ++ strI i) → Q (.inl none) (ME e I' J)) : SX11_saysWord [.ref 200, .ref (2000 + i)] (ME e I J) Q := by
  refine x_in (Nat.le_of_ble_eq_true rfl) ?_
  dsimp only [bX11_saysWord, bX11_saysWord_0]
  obtain ⟨s1, s2, s3⟩ := str_ok i hi.1 hi.2
  refine x_for (scLen.getD i 0) (fun k a μ => ∃ I2 : IM, a = [.ref 200, .ref (2000 + i), .int (i32 k)] ∧ μ = ME e I2 J ∧ Oy I I2 ∧ Ty I2 31 216 (l ++ (strI i).take k)) ?_ ?_ (Nat.zero_le _) ⟨I, rfl, rfl, Oy.refl I, by simpa using hT⟩
  · rintro k a μ hk ⟨I2, rfl, rfl, f2, T2⟩ hJ
    dsimp only [bX11_saysWord, bX11_saysWord_1]
    refine ⟨⟨i, by unfold scN; omega, rfl⟩, i, by unfold scN; omega, rfl, ?_⟩
    dsimp only
    rw [nI_i32]
    refine x_le (by omega) (by omega) (fun h => by omega) (fun _ => ⟨⟨i, by unfold scN; omega, rfl⟩, i, k, by unfold scN; omega, hk, by rw [nI_i32], ?_⟩)
    have s4 := s3 k (by omega) hk
    dsimp only
    rw [s4.1, show (1 : Int32) = i32 1 from rfl, i32_add]
    refine x_ob rfl (x_cV (sp_X11_says T2 (by simp; omega) (by omega) fun I3 f3 T3 => hJ _ _ ⟨I3, rfl, rfl, f2.trans f3, ?_⟩))
    rw [take_snoc (by omega), ← List.append_assoc]
    exact T3
  · rintro a μ ⟨I2, rfl, rfl, f2, T2⟩
    dsimp only [bX11_saysWord, bX11_saysWord_1]
    refine ⟨⟨i, by unfold scN; omega, rfl⟩, i, by unfold scN; omega, rfl, ?_⟩
    dsimp only
    rw [nI_i32]
    refine x_le (by omega) (by omega) (fun h => x_rV (hQ I2 f2 ?_)) (fun h => by omega)
    rw [← s1, List.take_length] at T2
    exact T2
theorem sp_X9_writeName (hG : Good V) (hW : Rwl I 5 V) (h0 : 0 ≤ a) (h1 : a < vm V) (hT : Tx I 3 4 l) (hl : l.length + 6 ≤ 400) (hQ : ∀ I' : IM, Ox I I' → Tx I' 3 4 (l ++ nam (vN V a)) → Q (.inl none) (ME e I' J)) : SX9_writeName [.ref 5, .int (i32 a), .ref 3] (ME e I J) Q := by
  refine x_in (Nat.le_of_ble_eq_true rfl) ?_
  dsimp only [bX9_writeName, bX9_writeName_0]
  have m := hG.1
  have n := (hG.2.2.2.2.2.2.2.2.2.1 a h0 h1).2
  refine x_gR rfl rfl (x_cI (sp_X10_cell (n := 12) rfl h0 (by omega) (by omega) (by omega) ?_))
  rw [show I 6 a = enc 32 (vN V a) from hW.2.1 a h0 h1]
  exact x_ob rfl (x_cV (sp_X7_addWord n hT (by have := n.2.1; omega) fun I1 f1 T1 => x_rV (hQ I1 f1 T1)))
end Out58c
