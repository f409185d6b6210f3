section Out58f
variable {e : Nat} {I J : IM} {Q : Post} {V : Vw} {H : Hw} {a b c v s : Int} {l : List Int}
theorem cq_printSight (h : Cn I V H) (he : e ∈ stLs) (ha : IR a) : CqO SX10_printSight [.ref 0, .int (i32 a)] e I J (psA V a) := by
  intro Q hQ hN
  obtain ⟨hG, hGH, hB, hR, hH, hW, hd⟩ := id h
  refine x_in (Nat.le_of_ble_eq_true rfl) ?_
  dsimp only [bX10_printSight, bX10_printSight_0]
  ((try rw [show (0 : Int32) = i32 (0) from rfl]); (try simp only [i32_add, i32_sub, i32_mul, i32_neg]))
  unfold psA at hQ hN
  refine x_ob rfl (x_cV (sp_X10_needSight hG.2.1 hR ha (fun h1 h2 => ?_) (fun h1 => hN (by rw [if_neg (by omega)]) I e he (Cf.refl hd))))
  rw [if_pos ⟨h1, h2⟩] at hQ
  have hQ := hQ _ rfl
  have n40 := hG.2.1
  have g := gd_s hG h1 h2
  have n1 := gd_nm hG g.1.1 g.1.2
  have n2 := gd_nm hG g.2.1.1 g.2.1.2
  have s12 := str_ok 12 (by omega) (by omega)
  have s13 := str_ok 13 (by omega) (by omega)
  have s14 := str_ok 14 (by omega) (by omega)
  have s15 := str_ok 15 (by omega) (by omega)
  have s16 := str_ok 16 (by omega) (by omega)
  refine x_gR rfl rfl (x_pI rfl ?_)
  rw [show ((1 : Nat) : Int) = 1 from rfl]
  have o1 : Ox I (up I 3 1 0) := fun q a b => by rw [up_qf (by omega)]
  have T1 : Tx (up I 3 1 0) 3 4 [] := Tx0
  generalize up I 3 1 0 = I1 at *
  have key : ∀ (I2 : IM), Ox I I2 → Tx I2 3 4 (if vG V 5 a = 0 then [] else strI 12) → fx bX10_printSight 1 [.ref 0, .int (i32 a)] (ME e I2 J) Q := by
    intro I2 f2 T2
    have l2 : (if vG V 5 a = 0 then [] else strI 12).length ≤ 6 := by
      split
      · exact Nat.zero_le _
      · omega
    refine fx_in ?_
    dsimp only [bX10_printSight, bX10_printSight_1]
    ((try rw [show (0 : Int32) = i32 (0) from rfl]); (try rw [show (32 : Int32) = i32 (32) from rfl]); (try simp only [i32_add, i32_sub, i32_mul, i32_neg]))
    refine x_gR rfl rfl (x_ob rfl (x_cV (sp_X7_addText (i := 13) (by omega) T2 (by omega) fun I3 f3 T3 => ?_)))
    have f3 := f2.trans f3
    have R3 := (f3.cn h).2.2.2.1
    refine x_gR rfl rfl (x_gR rfl rfl (x_gRs st8 rfl (x_cI (sp_X10_cell (n := 40) rfl (by omega) (by omega) (by omega) (by omega) ?_))))
    dsimp only
    rw [show I3 13 a = vG V 0 a from R_s0 R3 h1 h2]
    refine x_gR rfl rfl (x_ob rfl (x_cV (sp_X9_writeName hG (f3.cn h).2.2.2.2.2.1 g.1.1 g.1.2 T3 (by simp; omega) fun I4 f4 T4 => ?_)))
    have f4 := f3.trans f4
    refine x_gR rfl rfl (x_ob rfl (x_cV (o_add T4 (by simp [nam_len]; have := n1.2.1; omega) (by omega) fun I5 f5 T5 => ?_)))
    have f5 := f4.trans f5
    have R5 := (f5.cn h).2.2.2.1
    refine x_gR rfl rfl (x_gR rfl rfl (x_gRs st8 rfl (x_cI (sp_X10_cell (n := 40) rfl (by omega) (by omega) (by omega) (by omega) ?_))))
    dsimp only
    rw [show I5 14 a = vG V 1 a from R_s1 R5 h1 h2]
    have len5 : ((((if vG V 5 a = 0 then [] else strI 12) ++ strI 13) ++ nam (vN V (vG V 0 a))) ++ [32]).length ≤ 19 := by simp only [List.length_append, nam_len, List.length_cons, List.length_nil]; have := n1.2.1; omega
    generalize ((((if vG V 5 a = 0 then [] else strI 12) ++ strI 13) ++ nam (vN V (vG V 0 a))) ++ [32]) = l5 at *
    refine x_gR rfl rfl (x_ob rfl (x_cV (sp_X9_writeName hG (f5.cn h).2.2.2.2.2.1 g.2.1.1 g.2.1.2 T5 (by omega) fun I6 f6 T6 => ?_)))
    have f6 := f5.trans f6
    have R6 := (f6.cn h).2.2.2.1
    have len6 : (l5 ++ nam (vN V (vG V 1 a))).length ≤ 25 := by simp only [List.length_append, nam_len]; have := n2.2.1; omega
    generalize l5 ++ nam (vN V (vG V 1 a)) = l6 at *
    refine x_gR rfl rfl (x_gR rfl rfl (x_gRs st8 rfl (x_cI (sp_X10_cell (n := 40) rfl (by omega) (by omega) (by omega) (by omega) ?_))))
    dsimp only
    rw [show I6 15 a = vG V 2 a from R_s2 R6 h1 h2]
    -- the reading and the heat
    have fin : ∀ (I7 : IM) (t : List Int), Ox I I7 → t.length ≤ 6 → Tx I7 3 4 (l6 ++ t) → t = (if vG V 2 a = 0 then strI 14 else strI 15) →
        (gR 10 1 0 fun r28 => gR 10 3 0 fun r29 => gR 6 10 r29 fun r30 => cI SX10_cell [.ref r30, .int (i32 a)] fun v31 => ob 7 r28 (cV SX7_addNumber [.ref r28, .int v31] <| gR 10 1 0 fun r32 => ob 7 r32 (cV SX7_addText [.ref r32, .ref 2016] <| gR 10 1 0 fun r33 => gR 10 3 0 fun r34 => gR 6 11 r34 fun r35 => cI SX10_cell [.ref r35, .int (i32 a)] fun v36 => ob 7 r33 (cV SX7_addNumber [.ref r33, .int v36] <| gR 10 1 0 fun r37 => gI 7 1 r37 fun v38 => rI v38)))) (ME e I7 J) Q := by
      intro I7 t f7 lt T7 et
      have R7 := (f7.cn h).2.2.2.1
      have a1 := num_len (v := vG V 3 a) (by omega)
      have a2 := num_len (v := vG V 4 a) (by omega)
      refine x_gR rfl rfl (x_gR rfl rfl (x_gRs st8 rfl (x_cI (sp_X10_cell (n := 40) rfl (by omega) (by omega) (by omega) (by omega) ?_))))
      dsimp only
      rw [show I7 16 a = vG V 3 a from R_s3 R7 h1 h2]
      refine x_ob rfl (x_cV (sp_X7_addNumber (by omega) T7 (by simp; omega) fun I8 f8 T8 => ?_))
      have f8 := f7.trans f8
      refine x_gR rfl rfl (x_ob rfl (x_cV (sp_X7_addText (i := 16) (by omega) T8 (by simp; omega) fun I9 f9 T9 => ?_)))
      have f9 := f8.trans f9
      have R9 := (f9.cn h).2.2.2.1
      refine x_gR rfl rfl (x_gR rfl rfl (x_gRs st8 rfl (x_cI (sp_X10_cell (n := 40) rfl (by omega) (by omega) (by omega) (by omega) ?_))))
      dsimp only
      rw [show I9 17 a = vG V 4 a from R_s4 R9 h1 h2]
      refine x_ob rfl (x_cV (sp_X7_addNumber (by omega) T9 (by simp; omega) fun Ia fa Ta => ?_))
      have fa := f9.trans fa
      refine x_gR rfl rfl (x_gI rfl ?_)
      rw [show Ia 3 ((1 : Nat) : Int) = _ from Ta.1]
      rw [← et] at hQ
      exact x_rI (hQ Ia e he (fa.cx hd) Ta)
    refine x_eq (by omega) (by omega) (fun hz => ?_) (fun hz => ?_)
    · exact x_ob rfl (x_cV (sp_X7_addText (i := 14) (by omega) T6 (by omega) fun I7 f7 T7 => fin I7 _ (f6.trans f7) (by omega) T7 (by rw [if_pos hz])))
    · exact x_ob rfl (x_cV (sp_X7_addText (i := 15) (by omega) T6 (by omega) fun I7 f7 T7 => fin I7 _ (f6.trans f7) (by omega) T7 (by rw [if_neg hz])))
  have h1' := o1.cn h
  refine x_gR rfl rfl (x_obs st8 (x_cI (sp_X6_counts he st8 hG h1'.2.2.2.1 h1 h2 ?_)))
  by_cases hz : vG V 5 a = 0
  · rw [if_pos hz]
    refine x_eq (by omega) (by omega) (fun h => by omega) (fun _ => key I1 o1 ?_)
    rw [if_pos hz]; exact T1
  · rw [if_neg hz]
    refine x_brr (by trivial) (x_gR rfl rfl (x_ob rfl (x_cV (sp_X7_addText (i := 12) (by omega) T1 (by simp) fun I2 f2 T2 => key I2 (o1.trans f2) ?_))))
    rw [if_neg hz]; exact T2
theorem rq_printSight (h : Rn I V H) (ha : IR a) : RqO SX11_printSight [.ref 200, .int (i32 a)] e I J (psA V a) := by
  intro Q hQ hN
  obtain ⟨hG, hGH, hB, hW, hH⟩ := id h
  refine x_in (Nat.le_of_ble_eq_true rfl) ?_
  dsimp only [bX11_printSight, bX11_printSight_0]
  ((try rw [show (0 : Int32) = i32 (0) from rfl]); (try simp only [i32_add, i32_sub, i32_mul, i32_neg]))
  unfold psA at hQ hN
  refine x_ob rfl (x_cI (sp_X11_isSight hG hW ha (x_ob rfl (x_cI (sp_X11_is (by split <;> simp) ?_)))))
  dsimp only
  by_cases hc : 0 ≤ a ∧ a ≤ (vn V : Int) - 1
  · rw [if_pos hc]
    have h1 := hc.1
    have h2 : a < vn V := by omega
    rw [if_pos ⟨h1, h2⟩] at hQ
    have hQ := hQ _ rfl
    have m := hG.1
    have n40 := hG.2.1
    have g := gd_s hG h1 h2
    have n1 := gd_nm hG g.1.1 g.1.2
    have n2 := gd_nm hG g.2.1.1 g.2.1.2
    have s12 := str_ok 12 (by omega) (by omega)
    have s13 := str_ok 13 (by omega) (by omega)
    have s14 := str_ok 14 (by omega) (by omega)
    have s15 := str_ok 15 (by omega) (by omega)
    have s16 := str_ok 16 (by omega) (by omega)
    refine x_eq (by omega) (by omega) (fun h => by omega) (fun _ => x_pI rfl ?_)
    rw [show ((31 : Nat) : Int) = 31 from rfl]
    have r0 : Rfr I (up I 200 0 (1 - 1)) := Rfr.told
    have t0 : up I 200 0 (1 - 1) 200 0 = 0 := by rw [up_self]; rfl
    have h0 := h.rfr r0
    generalize up I 200 0 (1 - 1) = I0 at *
    have o1 : Oy I0 (up I0 200 31 0) := ⟨fun q a b => up_qf a, fun k a => up_k a⟩
    have T1 : Ty (up I0 200 31 0) 31 216 [] := Ty0
    generalize up I0 200 31 0 = I1 at *
    have key : ∀ (I2 : IM), Oy I0 I2 → Ty I2 31 216 (if vG V 5 a = 0 then [] else strI 12) → fx bX11_printSight 1 [.ref 200, .int (i32 a)] (ME e I2 J) Q := by
      intro I2 f2 T2
      have l2 : (if vG V 5 a = 0 then [] else strI 12).length ≤ 6 := by
        split
        · exact Nat.zero_le _
        · omega
      refine fx_in ?_
      dsimp only [bX11_printSight, bX11_printSight_1]
      ((try rw [show (0 : Int32) = i32 (0) from rfl]); (try rw [show (1 : Int32) = i32 (1) from rfl]); (try rw [show (2 : Int32) = i32 (2) from rfl]); (try rw [show (3 : Int32) = i32 (3) from rfl]); (try rw [show (4 : Int32) = i32 (4) from rfl]); (try rw [show (32 : Int32) = i32 (32) from rfl]); (try simp only [i32_add, i32_sub, i32_mul, i32_neg]))
      have of_ : ∀ (I' : IM) (f : Nat) {F : Int32 → Sem}, Oy I0 I' → f < 6 → F (i32 (vG V f a)) (ME e I' J) Q → (ob 11 200 (cI SX11_ofSight [.ref 200, .int (i32 a), .int (i32 (f : Int))] F)) (ME e I' J) Q := by
        intro I' f F hO hf hF
        refine x_ob rfl (x_cI (sp_X11_ofSight (by omega) (by omega) (by omega) (by omega) ?_))
        rw [W_s (hO.rn h0).2.2.2.1 f h1 h2 hf]
        exact hF
      refine x_ob rfl (x_cV (sp_X11_saysWord (i := 13) (by omega) T2 (by omega) fun I3 f3 T3 => ?_))
      have f3 := f2.trans f3
      refine of_ I3 0 f3 (by omega) ?_
      refine x_ob rfl (x_cI (sp_X11_of g.1.1 (by omega) (by omega) (by omega) ?_))
      rw [W_nm (f3.rn h0).2.2.2.1 g.1.1 g.1.2]
      refine x_ob rfl (x_cV (sp_X11_saysLetters 7 _ _ I3 _ n1.1 (by have := n1.2.1; omega) n1.2.1 n1.2.2 T3 (by have := n1.2.1; simp; omega) fun I4 f4 T4 => ?_))
      have f4 := f3.trans f4
      refine x_ob rfl (x_cV (sp_X11_says T4 (by simp [nam_len]; have := n1.2.1; omega) (by omega) fun I5 f5 T5 => ?_))
      have f5 := f4.trans f5
      have len5 : ((((if vG V 5 a = 0 then [] else strI 12) ++ strI 13) ++ nam (vN V (vG V 0 a))) ++ [32]).length ≤ 19 := by simp only [List.length_append, nam_len, List.length_cons, List.length_nil]; have := n1.2.1; omega
      generalize ((((if vG V 5 a = 0 then [] else strI 12) ++ strI 13) ++ nam (vN V (vG V 0 a))) ++ [32]) = l5 at *
      refine of_ I5 1 f5 (by omega) ?_
      refine x_ob rfl (x_cI (sp_X11_of g.2.1.1 (by omega) (by omega) (by omega) ?_))
      rw [W_nm (f5.rn h0).2.2.2.1 g.2.1.1 g.2.1.2]
      refine x_ob rfl (x_cV (sp_X11_saysLetters 7 _ _ I5 _ n2.1 (by have := n2.2.1; omega) n2.2.1 n2.2.2 T5 (by have := n2.2.1; omega) fun I6 f6 T6 => ?_))
      have f6 := f5.trans f6
      have len6 : (l5 ++ nam (vN V (vG V 1 a))).length ≤ 25 := by simp only [List.length_append, nam_len]; have := n2.2.1; omega
      generalize l5 ++ nam (vN V (vG V 1 a)) = l6 at *
      refine of_ I6 2 f6 (by omega) ?_
      have fin : ∀ (I7 : IM) (t : List Int), Oy I0 I7 → t.length ≤ 6 → Ty I7 31 216 (l6 ++ t) → t = (if vG V 2 a = 0 then strI 14 else strI 15) →
          (ob 11 200 (cI SX11_ofSight [.ref 200, .int (i32 a), .int (i32 3)] fun v9 => ob 11 200 (cV SX11_saysNumber [.ref 200, .int v9] <| ob 11 200 (cV SX11_saysWord [.ref 200, .ref 2016] <| ob 11 200 (cI SX11_ofSight [.ref 200, .int (i32 a), .int (i32 4)] fun v10 => ob 11 200 (cV SX11_saysNumber [.ref 200, .int v10] <| gI 11 31 200 fun v11 => rI v11)))))) (ME e I7 J) Q := by
        intro I7 t f7 lt T7 et
        have a1 := num_len (v := vG V 3 a) (by omega)
        have a2 := num_len (v := vG V 4 a) (by omega)
        refine of_ I7 3 f7 (by omega) ?_
        refine x_ob rfl (x_cV (sp_X11_saysNumber (by omega) T7 (by simp; omega) fun I8 f8 T8 => ?_))
        have f8 := f7.trans f8
        refine x_ob rfl (x_cV (sp_X11_saysWord (i := 16) (by omega) T8 (by simp; omega) fun I9 f9 T9 => ?_))
        have f9 := f8.trans f9
        refine of_ I9 4 f9 (by omega) ?_
        refine x_ob rfl (x_cV (sp_X11_saysNumber (by omega) T9 (by simp; omega) fun Ia fa Ta => x_gI rfl ?_))
        have fa := f9.trans fa
        rw [show Ia 200 ((31 : Nat) : Int) = _ from Ta.1]
        rw [← et] at hQ
        exact x_rI (hQ Ia (r0.ry fa) Ta (by rw [fa.2 0 (by omega)]; exact t0))
      refine x_eq (by omega) (by omega) (fun hz => ?_) (fun hz => ?_)
      · exact x_ob rfl (x_cV (sp_X11_saysWord (i := 14) (by omega) T6 (by omega) fun I7 f7 T7 => fin I7 _ (f6.trans f7) (by omega) T7 (by rw [if_pos hz])))
      · exact x_ob rfl (x_cV (sp_X11_saysWord (i := 15) (by omega) T6 (by omega) fun I7 f7 T7 => fin I7 _ (f6.trans f7) (by omega) T7 (by rw [if_neg hz])))
    have hn := o1.rn h0
    refine x_ob rfl (x_cI (sp_X11_counts hG hn.2.2.2.1 h1 h2 ?_))
    by_cases hz : vG V 5 a = 0
    · rw [if_pos hz]
      refine x_eq (by omega) (by omega) (fun h => by omega) (fun _ => key I1 o1 ?_)
      rw [if_pos hz]; exact T1
    · rw [if_neg hz]
      refine x_brr (by trivial) (x_ob rfl (x_cV (sp_X11_saysWord (i := 12) (by omega) T1 (by simp) fun I2 f2 T2 => key I2 (o1.trans f2) ?_)))
      rw [if_neg hz]; exact T2
  · rw [if_neg hc]
    exact x_brr (by trivial) (x_rI (hN (by rw [if_neg (by omega)]) _ 0 Rfr.told up_self))
/-- a byte of the output, or -1 -/
def obA (l : List Int) (a : Int) : Int := if 0 ≤ a ∧ a < l.length then l.getD a.toNat 0 else -1
theorem sp_X7_byteAt {t r n : Nat} (ht : kb t = (0, 7)) (hr : kb r = (1, n)) (hR : R0 e t 0 = some r) (hT : Tx I t r l) (hl : l.length ≤ n) (hn : n ≤ 1000) (ha : IR a)
    (hQ : Q (.inl (some (.int (i32 (obA l a))))) (ME e I J)) : SX7_byteAt [.ref t, .int (i32 a)] (ME e I J) Q := by
  refine x_in (Nat.le_of_ble_eq_true rfl) ?_
  dsimp only [bX7_byteAt, bX7_byteAt_0]
  ((try rw [show (0 : Int32) = i32 (0) from rfl]); (try rw [show (-1 : Int32) = i32 (-1) from rfl]); (try simp only [i32_add, i32_sub, i32_mul, i32_neg]))
  unfold IR at ha
  unfold obA at hQ
  refine x_lt (by omega) (by omega) (fun h => x_rI (by rwa [if_neg (by omega)] at hQ)) (fun h => x_gI ht ?_)
  rw [show I t ((1 : Nat) : Int) = _ from hT.1]
  refine x_le (by omega) (by omega) (fun h => x_rI (by rwa [if_neg (by omega)] at hQ)) (fun h => x_gR ht hR (x_cI (sp_X10_cell hr (by omega) (by omega) (by omega) (by omega) ?_)))
  rw [if_pos (by omega)] at hQ
  have := hT.2 a.toNat (by omega)
  rw [Int.toNat_of_nonneg (by omega)] at this
  rw [this]
  exact x_rI hQ
theorem cq_outputByte (hd : dg0 I) (hT : Tx I 3 4 l) (hl : l.length ≤ 400) (he : e ∈ stLs) (ha : IR a) : Cq SX10_outputByte [.ref 0, .int (i32 a)] e I J (.inl (obA l a)) := by
  intro Q hQ
  refine x_in (Nat.le_of_ble_eq_true rfl) ?_
  dsimp only [bX10_outputByte, bX10_outputByte_0]
  exact x_gR rfl rfl (x_ob rfl (x_cI (sp_X7_byteAt (n := 400) rfl rfl rfl hT hl (by omega) ha (x_rI (hQ I e (Cf.refl hd) he)))))
theorem rq_outputByte (hT : Ty I 31 216 l) (hl : l.length ≤ 400) (ha : IR a) : Rq SX11_outputByte [.ref 200, .int (i32 a)] e I J (obA l a) 0 := by
  intro Q hQ
  refine x_in (Nat.le_of_ble_eq_true rfl) ?_
  dsimp only [bX11_outputByte, bX11_outputByte_0]
  ((try rw [show (0 : Int32) = i32 (0) from rfl]); (try rw [show (-1 : Int32) = i32 (-1) from rfl]); (try simp only [i32_add, i32_sub, i32_mul, i32_neg]))
  refine x_pI rfl (x_gI rfl ?_)
  rw [show ((0 : Nat) : Int) = 0 from rfl, show up I 200 0 0 200 ((31 : Nat) : Int) = (l.length : Int) by rw [up_k (by omega)]; exact hT.1]
  have hq := hQ (up I 200 0 0) Rfr.told up_self
  unfold IR at ha
  rw [i32_long (by omega) (by omega), i32_long (by omega) (by omega), show (0 : Int64) = i64 0 from rfl, show (1 : Int64) = i64 1 from rfl, i64_sub]
  refine x_cI (sp_X11_isIn (by omega) (by omega) (by omega) ?_)
  unfold obA at hq
  by_cases hc : 0 ≤ a ∧ a ≤ (l.length : Int) - 1
  · rw [if_pos hc]
    rw [if_pos (by omega)] at hq
    refine x_eq (by omega) (by omega) (fun h => by omega) (fun _ => x_gR rfl rfl (x_aB (n := 400) rfl (Or.inl rfl) (by omega) (by omega) (by omega) ?_))
    have := hT.2 a.toNat (by omega)
    rw [Int.toNat_of_nonneg (by omega)] at this
    rw [up_q (by omega), this]
    exact x_rI hq
  · rw [if_neg hc]
    rw [if_neg (by omega)] at hq
    exact x_brr (by trivial) (x_rI hq)
end Out58f
