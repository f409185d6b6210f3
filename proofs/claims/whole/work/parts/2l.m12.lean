/-! SpiritWallModel.estimateOf(II)I -/
theorem dX11_estimateOf_0 : decode cX11_estimateOf 0 = .ok (.iload_n 1, 1) := by decide +kernel
theorem dX11_estimateOf_1 : decode cX11_estimateOf 1 = .ok (.iload_n 2, 1) := by decide +kernel
theorem dX11_estimateOf_2 : decode cX11_estimateOf 2 = .ok (.if_icmp .eq 12, 3) := by decide +kernel
theorem dX11_estimateOf_5 : decode cX11_estimateOf 5 = .ok (.aload_n 0, 1) := by decide +kernel
theorem dX11_estimateOf_6 : decode cX11_estimateOf 6 = .ok (.iload_n 1, 1) := by decide +kernel
theorem dX11_estimateOf_7 : decode cX11_estimateOf 7 = .ok (.iload_n 2, 1) := by decide +kernel
theorem dX11_estimateOf_8 : decode cX11_estimateOf 8 = .ok (.invokevirtual 136, 3) := by decide +kernel
theorem dX11_estimateOf_11 : decode cX11_estimateOf 11 = .ok (.ifCond .ne 6, 3) := by decide +kernel
theorem dX11_estimateOf_14 : decode cX11_estimateOf 14 = .ok (.ldc 140, 2) := by decide +kernel
theorem dX11_estimateOf_16 : decode cX11_estimateOf 16 = .ok (.ireturn, 1) := by decide +kernel
theorem dX11_estimateOf_17 : decode cX11_estimateOf 17 = .ok (.lconst 0, 1) := by decide +kernel
theorem dX11_estimateOf_18 : decode cX11_estimateOf 18 = .ok (.lstore_n 3, 1) := by decide +kernel
theorem dX11_estimateOf_19 : decode cX11_estimateOf 19 = .ok (.lconst 0, 1) := by decide +kernel
theorem dX11_estimateOf_20 : decode cX11_estimateOf 20 = .ok (.lstore 5, 2) := by decide +kernel
theorem dX11_estimateOf_22 : decode cX11_estimateOf 22 = .ok (.iconst 0, 1) := by decide +kernel
theorem dX11_estimateOf_23 : decode cX11_estimateOf 23 = .ok (.istore 7, 2) := by decide +kernel
theorem dX11_estimateOf_25 : decode cX11_estimateOf 25 = .ok (.iconst 0, 1) := by decide +kernel
theorem dX11_estimateOf_26 : decode cX11_estimateOf 26 = .ok (.istore 8, 2) := by decide +kernel
theorem dX11_estimateOf_28 : decode cX11_estimateOf 28 = .ok (.iconst 0, 1) := by decide +kernel
theorem dX11_estimateOf_29 : decode cX11_estimateOf 29 = .ok (.istore 9, 2) := by decide +kernel
theorem dX11_estimateOf_31 : decode cX11_estimateOf 31 = .ok (.iload 9, 2) := by decide +kernel
theorem dX11_estimateOf_33 : decode cX11_estimateOf 33 = .ok (.aload_n 0, 1) := by decide +kernel
theorem dX11_estimateOf_34 : decode cX11_estimateOf 34 = .ok (.invokevirtual 97, 3) := by decide +kernel
theorem dX11_estimateOf_37 : decode cX11_estimateOf 37 = .ok (.if_icmp .ge 115, 3) := by decide +kernel
theorem dX11_estimateOf_40 : decode cX11_estimateOf 40 = .ok (.aload_n 0, 1) := by decide +kernel
theorem dX11_estimateOf_41 : decode cX11_estimateOf 41 = .ok (.iload 9, 2) := by decide +kernel
theorem dX11_estimateOf_43 : decode cX11_estimateOf 43 = .ok (.invokevirtual 141, 3) := by decide +kernel
theorem dX11_estimateOf_46 : decode cX11_estimateOf 46 = .ok (.ifCond .eq 100, 3) := by decide +kernel
theorem dX11_estimateOf_49 : decode cX11_estimateOf 49 = .ok (.aload_n 0, 1) := by decide +kernel
theorem dX11_estimateOf_50 : decode cX11_estimateOf 50 = .ok (.iload 9, 2) := by decide +kernel
theorem dX11_estimateOf_52 : decode cX11_estimateOf 52 = .ok (.invokevirtual 144, 3) := by decide +kernel
theorem dX11_estimateOf_55 : decode cX11_estimateOf 55 = .ok (.iload_n 1, 1) := by decide +kernel
theorem dX11_estimateOf_56 : decode cX11_estimateOf 56 = .ok (.iload_n 2, 1) := by decide +kernel
theorem dX11_estimateOf_57 : decode cX11_estimateOf 57 = .ok (.invokestatic 133, 3) := by decide +kernel
theorem dX11_estimateOf_60 : decode cX11_estimateOf 60 = .ok (.if_icmp .eq 6, 3) := by decide +kernel
theorem dX11_estimateOf_63 : decode cX11_estimateOf 63 = .ok (.goto 83, 3) := by decide +kernel
theorem dX11_estimateOf_66 : decode cX11_estimateOf 66 = .ok (.aload_n 0, 1) := by decide +kernel
theorem dX11_estimateOf_67 : decode cX11_estimateOf 67 = .ok (.iload 9, 2) := by decide +kernel
theorem dX11_estimateOf_69 : decode cX11_estimateOf 69 = .ok (.invokevirtual 147, 3) := by decide +kernel
theorem dX11_estimateOf_72 : decode cX11_estimateOf 72 = .ok (.ifCond .eq 12, 3) := by decide +kernel
theorem dX11_estimateOf_75 : decode cX11_estimateOf 75 = .ok (.aload_n 0, 1) := by decide +kernel
theorem dX11_estimateOf_76 : decode cX11_estimateOf 76 = .ok (.iload 9, 2) := by decide +kernel
theorem dX11_estimateOf_78 : decode cX11_estimateOf 78 = .ok (.invokevirtual 150, 3) := by decide +kernel
theorem dX11_estimateOf_81 : decode cX11_estimateOf 81 = .ok (.goto 10, 3) := by decide +kernel
theorem dX11_estimateOf_84 : decode cX11_estimateOf 84 = .ok (.aload_n 0, 1) := by decide +kernel
theorem dX11_estimateOf_85 : decode cX11_estimateOf 85 = .ok (.iload 9, 2) := by decide +kernel
theorem dX11_estimateOf_87 : decode cX11_estimateOf 87 = .ok (.invokevirtual 150, 3) := by decide +kernel
theorem dX11_estimateOf_90 : decode cX11_estimateOf 90 = .ok (.ineg, 1) := by decide +kernel
theorem dX11_estimateOf_91 : decode cX11_estimateOf 91 = .ok (.istore 10, 2) := by decide +kernel
theorem dX11_estimateOf_93 : decode cX11_estimateOf 93 = .ok (.aload_n 0, 1) := by decide +kernel
theorem dX11_estimateOf_94 : decode cX11_estimateOf 94 = .ok (.iload 9, 2) := by decide +kernel
theorem dX11_estimateOf_96 : decode cX11_estimateOf 96 = .ok (.invokevirtual 147, 3) := by decide +kernel
theorem dX11_estimateOf_99 : decode cX11_estimateOf 99 = .ok (.aload_n 0, 1) := by decide +kernel
theorem dX11_estimateOf_100 : decode cX11_estimateOf 100 = .ok (.iload 9, 2) := by decide +kernel
theorem dX11_estimateOf_102 : decode cX11_estimateOf 102 = .ok (.iconst 2, 1) := by decide +kernel
theorem dX11_estimateOf_103 : decode cX11_estimateOf 103 = .ok (.invokevirtual 100, 3) := by decide +kernel
theorem dX11_estimateOf_106 : decode cX11_estimateOf 106 = .ok (.ifCond .ne 7, 3) := by decide +kernel
theorem dX11_estimateOf_109 : decode cX11_estimateOf 109 = .ok (.iconst 1, 1) := by decide +kernel
theorem dX11_estimateOf_110 : decode cX11_estimateOf 110 = .ok (.goto 4, 3) := by decide +kernel
theorem dX11_estimateOf_113 : decode cX11_estimateOf 113 = .ok (.iconst 0, 1) := by decide +kernel
theorem dX11_estimateOf_114 : decode cX11_estimateOf 114 = .ok (.if_icmp .ne 18, 3) := by decide +kernel
theorem dX11_estimateOf_117 : decode cX11_estimateOf 117 = .ok (.lload_n 3, 1) := by decide +kernel
theorem dX11_estimateOf_118 : decode cX11_estimateOf 118 = .ok (.iload 10, 2) := by decide +kernel
theorem dX11_estimateOf_120 : decode cX11_estimateOf 120 = .ok (.i2l, 1) := by decide +kernel
theorem dX11_estimateOf_121 : decode cX11_estimateOf 121 = .ok (.ladd, 1) := by decide +kernel
theorem dX11_estimateOf_122 : decode cX11_estimateOf 122 = .ok (.lstore_n 3, 1) := by decide +kernel
theorem dX11_estimateOf_123 : decode cX11_estimateOf 123 = .ok (.iload 7, 2) := by decide +kernel
theorem dX11_estimateOf_125 : decode cX11_estimateOf 125 = .ok (.iconst 1, 1) := by decide +kernel
theorem dX11_estimateOf_126 : decode cX11_estimateOf 126 = .ok (.iadd, 1) := by decide +kernel
theorem dX11_estimateOf_127 : decode cX11_estimateOf 127 = .ok (.istore 7, 2) := by decide +kernel
theorem dX11_estimateOf_129 : decode cX11_estimateOf 129 = .ok (.goto 17, 3) := by decide +kernel
theorem dX11_estimateOf_132 : decode cX11_estimateOf 132 = .ok (.lload 5, 2) := by decide +kernel
theorem dX11_estimateOf_134 : decode cX11_estimateOf 134 = .ok (.iload 10, 2) := by decide +kernel
theorem dX11_estimateOf_136 : decode cX11_estimateOf 136 = .ok (.i2l, 1) := by decide +kernel
theorem dX11_estimateOf_137 : decode cX11_estimateOf 137 = .ok (.ladd, 1) := by decide +kernel
theorem dX11_estimateOf_138 : decode cX11_estimateOf 138 = .ok (.lstore 5, 2) := by decide +kernel
theorem dX11_estimateOf_140 : decode cX11_estimateOf 140 = .ok (.iload 8, 2) := by decide +kernel
theorem dX11_estimateOf_142 : decode cX11_estimateOf 142 = .ok (.iconst 1, 1) := by decide +kernel
theorem dX11_estimateOf_143 : decode cX11_estimateOf 143 = .ok (.iadd, 1) := by decide +kernel
theorem dX11_estimateOf_144 : decode cX11_estimateOf 144 = .ok (.istore 8, 2) := by decide +kernel
theorem dX11_estimateOf_146 : decode cX11_estimateOf 146 = .ok (.iinc 9 1, 3) := by decide +kernel
theorem dX11_estimateOf_149 : decode cX11_estimateOf 149 = .ok (.goto (-118), 3) := by decide +kernel
theorem dX11_estimateOf_152 : decode cX11_estimateOf 152 = .ok (.iload 7, 2) := by decide +kernel
theorem dX11_estimateOf_154 : decode cX11_estimateOf 154 = .ok (.ifCond .eq 8, 3) := by decide +kernel
theorem dX11_estimateOf_157 : decode cX11_estimateOf 157 = .ok (.iload 8, 2) := by decide +kernel
theorem dX11_estimateOf_159 : decode cX11_estimateOf 159 = .ok (.ifCond .ne 6, 3) := by decide +kernel
theorem dX11_estimateOf_162 : decode cX11_estimateOf 162 = .ok (.ldc 140, 2) := by decide +kernel
theorem dX11_estimateOf_164 : decode cX11_estimateOf 164 = .ok (.ireturn, 1) := by decide +kernel
theorem dX11_estimateOf_165 : decode cX11_estimateOf 165 = .ok (.lload_n 3, 1) := by decide +kernel
theorem dX11_estimateOf_166 : decode cX11_estimateOf 166 = .ok (.iload 7, 2) := by decide +kernel
theorem dX11_estimateOf_168 : decode cX11_estimateOf 168 = .ok (.i2l, 1) := by decide +kernel
theorem dX11_estimateOf_169 : decode cX11_estimateOf 169 = .ok (.invokestatic 123, 3) := by decide +kernel
theorem dX11_estimateOf_172 : decode cX11_estimateOf 172 = .ok (.lload 5, 2) := by decide +kernel
theorem dX11_estimateOf_174 : decode cX11_estimateOf 174 = .ok (.iload 8, 2) := by decide +kernel
theorem dX11_estimateOf_176 : decode cX11_estimateOf 176 = .ok (.i2l, 1) := by decide +kernel
theorem dX11_estimateOf_177 : decode cX11_estimateOf 177 = .ok (.invokestatic 123, 3) := by decide +kernel
theorem dX11_estimateOf_180 : decode cX11_estimateOf 180 = .ok (.lsub, 1) := by decide +kernel
theorem dX11_estimateOf_181 : decode cX11_estimateOf 181 = .ok (.ldc2_w 153, 3) := by decide +kernel
theorem dX11_estimateOf_184 : decode cX11_estimateOf 184 = .ok (.invokestatic 123, 3) := by decide +kernel
theorem dX11_estimateOf_187 : decode cX11_estimateOf 187 = .ok (.l2i, 1) := by decide +kernel
theorem dX11_estimateOf_188 : decode cX11_estimateOf 188 = .ok (.ireturn, 1) := by decide +kernel
def rmX11_estimateOf : Room := rmk 10 0 0 238
theorem nX11_estimateOf : nameOk yX11_estimateOf 2 = true := by decide +kernel
def bX11_estimateOf_0 (J : JT) : List Value → Sem
  | [.ref x0, .int x1, .int x2] =>
    br (x1 = x2)
    (rI (-10000000))
    (ob 11 x0 (cI SX11_isOdd [.ref x0, .int x1, .int x2] fun v1 =>
    br (v1 = 0)
    (rI (-10000000))
    (J 1 [.ref x0, .int x1, .int x2, .long 0, .long 0, .int 0, .int 0, .int 0])))
  | _ => no
def bX11_estimateOf_1 (J : JT) : List Value → Sem
  | [.ref x0, .int x1, .int x2, .long x3, .long x5, .int x7, .int x8, .int x9] =>
    ob 11 x0 (cI SX11_sights [.ref x0] fun v1 =>
    br (v1 ≤ x9)
    (br (x7 = 0)
    (rI (-10000000))
    (br (x8 = 0)
    (rI (-10000000))
    (cJ SJ9_floorDiv_f86c9 [.long x3, .long (x7.toInt64)] fun v2 =>
    cJ SJ9_floorDiv_f86c9 [.long x5, .long (x8.toInt64)] fun v3 =>
    cJ SJ9_floorDiv_f86c9 [.long (v2 - v3), .long 2] fun v4 =>
    rI (v4.toInt32))))
    (ob 11 x0 (cI SX11_counts [.ref x0, .int x9] fun v5 =>
    br (v5 = 0)
    (J 1 [.ref x0, .int x1, .int x2, .long x3, .long x5, .int x7, .int x8, .int (x9 + 1)])
    (ob 11 x0 (cI SX11_pairOfSight [.ref x0, .int x9] fun v6 =>
    cI SX11_pairOf [.int x1, .int x2] fun v7 =>
    br (v6 = v7)
    (ob 11 x0 (cI SX11_goesUp [.ref x0, .int x9] fun v8 =>
    br (v8 = 0)
    (ob 11 x0 (cI SX11_pureOf [.ref x0, .int x9] fun v9 =>
    lI (-v9) fun y10_10 =>
    ob 11 x0 (cI SX11_goesUp [.ref x0, .int x9] fun v11 =>
    ob 11 x0 (cI SX11_ofSight [.ref x0, .int x9, .int 2] fun v12 =>
    br (v12 = 0)
    (br (v11 = (1 : Int32))
    (lJ (x3 + (y10_10.toInt64)) fun y3_19 =>
    lI (x7 + 1) fun y7_20 =>
    J 1 [.ref x0, .int x1, .int x2, .long y3_19, .long x5, .int y7_20, .int x8, .int (x9 + 1)])
    (lJ (x5 + (y10_10.toInt64)) fun y5_17 =>
    lI (x8 + 1) fun y8_18 =>
    J 1 [.ref x0, .int x1, .int x2, .long x3, .long y5_17, .int x7, .int y8_18, .int (x9 + 1)]))
    (br (v11 = (0 : Int32))
    (lJ (x3 + (y10_10.toInt64)) fun y3_15 =>
    lI (x7 + 1) fun y7_16 =>
    J 1 [.ref x0, .int x1, .int x2, .long y3_15, .long x5, .int y7_16, .int x8, .int (x9 + 1)])
    (lJ (x5 + (y10_10.toInt64)) fun y5_13 =>
    lI (x8 + 1) fun y8_14 =>
    J 1 [.ref x0, .int x1, .int x2, .long x3, .long y5_13, .int x7, .int y8_14, .int (x9 + 1)]))))))
    (ob 11 x0 (cI SX11_pureOf [.ref x0, .int x9] fun v21 =>
    ob 11 x0 (cI SX11_goesUp [.ref x0, .int x9] fun v22 =>
    ob 11 x0 (cI SX11_ofSight [.ref x0, .int x9, .int 2] fun v23 =>
    br (v23 = 0)
    (br (v22 = (1 : Int32))
    (lJ (x3 + (v21.toInt64)) fun y3_30 =>
    lI (x7 + 1) fun y7_31 =>
    J 1 [.ref x0, .int x1, .int x2, .long y3_30, .long x5, .int y7_31, .int x8, .int (x9 + 1)])
    (lJ (x5 + (v21.toInt64)) fun y5_28 =>
    lI (x8 + 1) fun y8_29 =>
    J 1 [.ref x0, .int x1, .int x2, .long x3, .long y5_28, .int x7, .int y8_29, .int (x9 + 1)]))
    (br (v22 = (0 : Int32))
    (lJ (x3 + (v21.toInt64)) fun y3_26 =>
    lI (x7 + 1) fun y7_27 =>
    J 1 [.ref x0, .int x1, .int x2, .long y3_26, .long x5, .int y7_27, .int x8, .int (x9 + 1)])
    (lJ (x5 + (v21.toInt64)) fun y5_24 =>
    lI (x8 + 1) fun y8_25 =>
    J 1 [.ref x0, .int x1, .int x2, .long x3, .long y5_24, .int x7, .int y8_25, .int (x9 + 1)]))))))))
    (J 1 [.ref x0, .int x1, .int x2, .long x3, .long x5, .int x7, .int x8, .int (x9 + 1)]))))))
  | _ => no
def bX11_estimateOf (J : JT) : JT := fun L a => match L with
  | 0 => bX11_estimateOf_0 J a
  | 1 => bX11_estimateOf_1 J a
  | _ => no
def SX11_estimateOf : ST := mk 11 bX11_estimateOf
def lX11_estimateOf (L : Nat) (a : List Value) : Nat × Nat × Nat × List (Nat × Value) × List Value := match L with
  | 0 => (0, 0, 0, lv_args 0 a, [])
  | 1 => (0, 0, 31, List.zip [0, 1, 2, 3, 5, 7, 8, 9] a, [])
  | _ => (0, 0, 0, [], [])
theorem pX11_estimateOf_0 {Γ : CT} (hC : Ctx Γ "SpiritWallModel" cX11_estimateOf 11 (some .int) rmX11_estimateOf) (hnt : NT Γ) (J : JT) (hJ : ∀ L a, Cor Γ 11 (lX11_estimateOf L a).1 (lX11_estimateOf L a).2.1 (lX11_estimateOf L a).2.2.1 (lX11_estimateOf L a).2.2.2.1 (lX11_estimateOf L a).2.2.2.2 (J L a)) (a : List Value) : Cor Γ 11 0 0 0 (lv_args 0 a) [] (bX11_estimateOf_0 J a) := by
  unfold bX11_estimateOf_0
  split
  · rename_i x0 x1 x2
    refine c_sub [0, 1, 2] rfl (loc' := [(0, .ref x0), (1, .int x1), (2, .int x2)]) ?_
    refine q_iload_n hC 1 dX11_estimateOf_0 rfl rfl ?_
    refine q_iload_n hC 2 dX11_estimateOf_1 rfl rfl ?_
    refine q_ic_eq hC 14 dX11_estimateOf_2 rfl ?_ ?_
    · refine q_ldc hC w_889 dX11_estimateOf_14 ?_
      exact q_iret hC dX11_estimateOf_16 (Nat.le_of_ble_eq_true rfl) (Nat.le_of_ble_eq_true rfl)
    · refine q_aload_n hC 0 dX11_estimateOf_5 rfl rfl ?_
      refine q_iload_n hC 1 dX11_estimateOf_6 rfl rfl ?_
      refine q_iload_n hC 2 dX11_estimateOf_7 rfl rfl ?_
      refine q_cVI hC hnt (stk := []) (as := [.int x1, .int x2]) sX11_isOdd (ci := 11) (by decide) rfl nX11_isOdd rfl w_890 w_892 w_893 w_830 w_891 (Nat.le_of_ble_eq_true rfl) dX11_estimateOf_8 rfl (fun v1 => ?_)
      refine q_if_ne hC 17 dX11_estimateOf_11 rfl ?_ ?_
      · refine q_lconst hC (v := 0) dX11_estimateOf_17 rfl ?_
        refine q_lstore_nA hC (loc' := [(3, .long 0), (0, .ref x0), (1, .int x1), (2, .int x2)]) dX11_estimateOf_18 rfl (Nat.le_of_ble_eq_true rfl) rfl ?_
        refine q_lconst hC (v := 0) dX11_estimateOf_19 rfl ?_
        refine q_lstoreA hC (loc' := [(5, .long 0), (3, .long 0), (0, .ref x0), (1, .int x1), (2, .int x2)]) dX11_estimateOf_20 (Nat.le_of_ble_eq_true rfl) rfl ?_
        refine q_iconst hC dX11_estimateOf_22 rfl ?_
        refine q_istoreA hC (loc' := [(7, .int 0), (5, .long 0), (3, .long 0), (0, .ref x0), (1, .int x1), (2, .int x2)]) dX11_estimateOf_23 (Nat.le_of_ble_eq_true rfl) rfl ?_
        refine q_iconst hC dX11_estimateOf_25 rfl ?_
        refine q_istoreA hC (loc' := [(8, .int 0), (7, .int 0), (5, .long 0), (3, .long 0), (0, .ref x0), (1, .int x1), (2, .int x2)]) dX11_estimateOf_26 (Nat.le_of_ble_eq_true rfl) rfl ?_
        refine q_iconst hC dX11_estimateOf_28 rfl ?_
        refine q_istoreA hC (loc' := [(9, .int 0), (8, .int 0), (7, .int 0), (5, .long 0), (3, .long 0), (0, .ref x0), (1, .int x1), (2, .int x2)]) dX11_estimateOf_29 (Nat.le_of_ble_eq_true rfl) rfl ?_
        exact c_sub [5, 6, 7, 4, 3, 2, 1, 0] rfl (hJ 1 [.ref x0, .int x1, .int x2, .long 0, .long 0, .int 0, .int 0, .int 0])
      · refine q_ldc hC w_889 dX11_estimateOf_14 ?_
        exact q_iret hC dX11_estimateOf_16 (Nat.le_of_ble_eq_true rfl) (Nat.le_of_ble_eq_true rfl)
  · exact c_no
theorem pX11_estimateOf_1 {Γ : CT} (hC : Ctx Γ "SpiritWallModel" cX11_estimateOf 11 (some .int) rmX11_estimateOf) (hnt : NT Γ) (J : JT) (hJ : ∀ L a, Cor Γ 11 (lX11_estimateOf L a).1 (lX11_estimateOf L a).2.1 (lX11_estimateOf L a).2.2.1 (lX11_estimateOf L a).2.2.2.1 (lX11_estimateOf L a).2.2.2.2 (J L a)) (a : List Value) : Cor Γ 11 0 0 31 (List.zip [0, 1, 2, 3, 5, 7, 8, 9] a) [] (bX11_estimateOf_1 J a) := by
  unfold bX11_estimateOf_1
  split
  · rename_i x0 x1 x2 x3 x5 x7 x8 x9
    refine c_sub [0, 1, 2, 3, 4, 5, 6, 7] rfl (loc' := [(0, .ref x0), (1, .int x1), (2, .int x2), (3, .long x3), (5, .long x5), (7, .int x7), (8, .int x8), (9, .int x9)]) ?_
    refine q_iload hC 7 dX11_estimateOf_31 rfl ?_
    refine q_aload_n hC 0 dX11_estimateOf_33 rfl rfl ?_
    refine q_cVI hC hnt (stk := [.int x9]) (as := []) sX11_sights (ci := 11) (by decide) rfl nX11_sights rfl w_854 w_856 w_857 w_830 w_855 (Nat.le_of_ble_eq_true rfl) dX11_estimateOf_34 rfl (fun v1 => ?_)
    refine q_ic_ge hC 152 dX11_estimateOf_37 rfl ?_ ?_
    · refine q_iload hC 5 dX11_estimateOf_152 rfl ?_
      refine q_if_eq hC 162 dX11_estimateOf_154 rfl ?_ ?_
      · refine q_ldc hC w_889 dX11_estimateOf_162 ?_
        exact q_iret hC dX11_estimateOf_164 (Nat.le_of_ble_eq_true rfl) (Nat.le_of_ble_eq_true rfl)
      · refine q_iload hC 6 dX11_estimateOf_157 rfl ?_
        refine q_if_ne hC 165 dX11_estimateOf_159 rfl ?_ ?_
        · refine q_lload_n hC 3 dX11_estimateOf_165 rfl rfl ?_
          refine q_iload hC 5 dX11_estimateOf_166 rfl ?_
          refine q_i2l hC dX11_estimateOf_168 ?_
          refine q_cSJ hC hnt (stk := []) (as := [.long x3, .long (x7.toInt64)]) sJ9_floorDiv_f86c9 nJ9_floorDiv_f86c9 rfl w_877 w_350 w_351 w_349 (Nat.le_of_ble_eq_true rfl) dX11_estimateOf_169 rfl (fun v2 => ?_)
          refine q_lload hC 4 dX11_estimateOf_172 rfl ?_
          refine q_iload hC 6 dX11_estimateOf_174 rfl ?_
          refine q_i2l hC dX11_estimateOf_176 ?_
          refine q_cSJ hC hnt (stk := [.long v2]) (as := [.long x5, .long (x8.toInt64)]) sJ9_floorDiv_f86c9 nJ9_floorDiv_f86c9 rfl w_877 w_350 w_351 w_349 (Nat.le_of_ble_eq_true rfl) dX11_estimateOf_177 rfl (fun v3 => ?_)
          refine q_lsub hC dX11_estimateOf_180 ?_
          refine q_ldc2 hC w_894 dX11_estimateOf_181 ?_
          refine q_cSJ hC hnt (stk := []) (as := [.long (v2 - v3), .long 2]) sJ9_floorDiv_f86c9 nJ9_floorDiv_f86c9 rfl w_877 w_350 w_351 w_349 (Nat.le_of_ble_eq_true rfl) dX11_estimateOf_184 rfl (fun v4 => ?_)
          refine q_l2i hC dX11_estimateOf_187 ?_
          exact q_iret hC dX11_estimateOf_188 (Nat.le_of_ble_eq_true rfl) (Nat.le_of_ble_eq_true rfl)
        · refine q_ldc hC w_889 dX11_estimateOf_162 ?_
          exact q_iret hC dX11_estimateOf_164 (Nat.le_of_ble_eq_true rfl) (Nat.le_of_ble_eq_true rfl)
    · refine q_aload_n hC 0 dX11_estimateOf_40 rfl rfl ?_
      refine q_iload hC 7 dX11_estimateOf_41 rfl ?_
      refine q_cVI hC hnt (stk := []) (as := [.int x9]) sX11_counts (ci := 11) (by decide) rfl nX11_counts rfl w_895 w_897 w_898 w_830 w_896 (Nat.le_of_ble_eq_true rfl) dX11_estimateOf_43 rfl (fun v5 => ?_)
      refine q_if_eq hC 146 dX11_estimateOf_46 rfl ?_ ?_
      · refine q_iincA hC (loc' := [(9, .int (x9 + 1)), (0, .ref x0), (1, .int x1), (2, .int x2), (3, .long x3), (5, .long x5), (7, .int x7), (8, .int x8)]) 7 1 dX11_estimateOf_146 rfl rfl (Nat.le_of_ble_eq_true rfl) rfl ?_
        refine q_goto hC 31 dX11_estimateOf_149 rfl ?_
        exact c_sub [1, 2, 3, 4, 5, 6, 7, 0] rfl (hJ 1 [.ref x0, .int x1, .int x2, .long x3, .long x5, .int x7, .int x8, .int (x9 + 1)])
      · refine q_aload_n hC 0 dX11_estimateOf_49 rfl rfl ?_
        refine q_iload hC 7 dX11_estimateOf_50 rfl ?_
        refine q_cVI hC hnt (stk := []) (as := [.int x9]) sX11_pairOfSight (ci := 11) (by decide) rfl nX11_pairOfSight rfl w_899 w_901 w_902 w_830 w_900 (Nat.le_of_ble_eq_true rfl) dX11_estimateOf_52 rfl (fun v6 => ?_)
        refine q_iload_n hC 1 dX11_estimateOf_55 rfl rfl ?_
        refine q_iload_n hC 2 dX11_estimateOf_56 rfl rfl ?_
        refine q_cSI hC hnt (stk := [.int v6]) (as := [.int x1, .int x2]) sX11_pairOf nX11_pairOf rfl w_886 w_888 w_830 w_887 (Nat.le_of_ble_eq_true rfl) dX11_estimateOf_57 rfl (fun v7 => ?_)
        refine q_ic_eq hC 66 dX11_estimateOf_60 rfl ?_ ?_
        · refine q_aload_n hC 0 dX11_estimateOf_66 rfl rfl ?_
          refine q_iload hC 7 dX11_estimateOf_67 rfl ?_
          refine q_cVI hC hnt (stk := []) (as := [.int x9]) sX11_goesUp (ci := 11) (by decide) rfl nX11_goesUp rfl w_903 w_905 w_906 w_830 w_904 (Nat.le_of_ble_eq_true rfl) dX11_estimateOf_69 rfl (fun v8 => ?_)
          refine q_if_eq hC 84 dX11_estimateOf_72 rfl ?_ ?_
          · refine q_aload_n hC 0 dX11_estimateOf_84 rfl rfl ?_
            refine q_iload hC 7 dX11_estimateOf_85 rfl ?_
            refine q_cVI hC hnt (stk := []) (as := [.int x9]) sX11_pureOf (ci := 11) (by decide) rfl nX11_pureOf rfl w_907 w_909 w_910 w_830 w_908 (Nat.le_of_ble_eq_true rfl) dX11_estimateOf_87 rfl (fun v9 => ?_)
            refine q_ineg hC dX11_estimateOf_90 ?_
            refine q_istore hC (fun y10_10 => [(10, .int y10_10), (0, .ref x0), (1, .int x1), (2, .int x2), (3, .long x3), (5, .long x5), (7, .int x7), (8, .int x8), (9, .int x9)]) dX11_estimateOf_91 (Nat.le_of_ble_eq_true rfl) (fun _ => rfl) (fun y10_10 => ?_)
            refine q_aload_n hC 1 dX11_estimateOf_93 rfl rfl ?_
            refine q_iload hC 8 dX11_estimateOf_94 rfl ?_
            refine q_cVI hC hnt (stk := []) (as := [.int x9]) sX11_goesUp (ci := 11) (by decide) rfl nX11_goesUp rfl w_903 w_905 w_906 w_830 w_904 (Nat.le_of_ble_eq_true rfl) dX11_estimateOf_96 rfl (fun v11 => ?_)
            refine q_aload_n hC 1 dX11_estimateOf_99 rfl rfl ?_
            refine q_iload hC 8 dX11_estimateOf_100 rfl ?_
            refine q_iconst hC dX11_estimateOf_102 rfl ?_
            refine q_cVI hC hnt (stk := [.int v11]) (as := [.int x9, .int 2]) sX11_ofSight (ci := 11) (by decide) rfl nX11_ofSight rfl w_858 w_860 w_861 w_830 w_859 (Nat.le_of_ble_eq_true rfl) dX11_estimateOf_103 rfl (fun v12 => ?_)
            refine q_if_ne hC 113 dX11_estimateOf_106 rfl ?_ ?_
            · refine q_iconst hC dX11_estimateOf_113 rfl ?_
              refine q_ic_ne hC 132 dX11_estimateOf_114 rfl ?_ ?_
              · refine q_lload hC 5 dX11_estimateOf_132 rfl ?_
                refine q_iload hC 0 dX11_estimateOf_134 rfl ?_
                refine q_i2l hC dX11_estimateOf_136 ?_
                refine q_ladd hC dX11_estimateOf_137 ?_
                refine q_lstore hC (fun y5_13 => [(5, .long y5_13), (10, .int y10_10), (0, .ref x0), (1, .int x1), (2, .int x2), (3, .long x3), (7, .int x7), (8, .int x8), (9, .int x9)]) dX11_estimateOf_138 (Nat.le_of_ble_eq_true rfl) (fun _ => rfl) (fun y5_13 => ?_)
                refine q_iload hC 7 dX11_estimateOf_140 rfl ?_
                refine q_iconst hC dX11_estimateOf_142 rfl ?_
                refine q_iadd hC dX11_estimateOf_143 ?_
                refine q_istore hC (fun y8_14 => [(8, .int y8_14), (5, .long y5_13), (10, .int y10_10), (0, .ref x0), (1, .int x1), (2, .int x2), (3, .long x3), (7, .int x7), (9, .int x9)]) dX11_estimateOf_144 (Nat.le_of_ble_eq_true rfl) (fun _ => rfl) (fun y8_14 => ?_)
                refine q_iincA hC (loc' := [(9, .int (x9 + 1)), (8, .int y8_14), (5, .long y5_13), (10, .int y10_10), (0, .ref x0), (1, .int x1), (2, .int x2), (3, .long x3), (7, .int x7)]) 8 1 dX11_estimateOf_146 rfl rfl (Nat.le_of_ble_eq_true rfl) rfl ?_
                refine q_goto hC 31 dX11_estimateOf_149 rfl ?_
                exact c_sub [4, 5, 6, 7, 2, 8, 1, 0] rfl (hJ 1 [.ref x0, .int x1, .int x2, .long x3, .long y5_13, .int x7, .int y8_14, .int (x9 + 1)])
              · refine q_lload_n hC 4 dX11_estimateOf_117 rfl rfl ?_
                refine q_iload hC 0 dX11_estimateOf_118 rfl ?_
                refine q_i2l hC dX11_estimateOf_120 ?_
                refine q_ladd hC dX11_estimateOf_121 ?_
                refine q_lstore_n hC (fun y3_15 => [(3, .long y3_15), (10, .int y10_10), (0, .ref x0), (1, .int x1), (2, .int x2), (5, .long x5), (7, .int x7), (8, .int x8), (9, .int x9)]) dX11_estimateOf_122 rfl (Nat.le_of_ble_eq_true rfl) (fun _ => rfl) (fun y3_15 => ?_)
                refine q_iload hC 6 dX11_estimateOf_123 rfl ?_
                refine q_iconst hC dX11_estimateOf_125 rfl ?_
                refine q_iadd hC dX11_estimateOf_126 ?_
                refine q_istore hC (fun y7_16 => [(7, .int y7_16), (3, .long y3_15), (10, .int y10_10), (0, .ref x0), (1, .int x1), (2, .int x2), (5, .long x5), (8, .int x8), (9, .int x9)]) dX11_estimateOf_127 (Nat.le_of_ble_eq_true rfl) (fun _ => rfl) (fun y7_16 => ?_)
                refine q_goto hC 146 dX11_estimateOf_129 rfl ?_
                refine q_iincA hC (loc' := [(9, .int (x9 + 1)), (7, .int y7_16), (3, .long y3_15), (10, .int y10_10), (0, .ref x0), (1, .int x1), (2, .int x2), (5, .long x5), (8, .int x8)]) 8 1 dX11_estimateOf_146 rfl rfl (Nat.le_of_ble_eq_true rfl) rfl ?_
                refine q_goto hC 31 dX11_estimateOf_149 rfl ?_
                exact c_sub [4, 5, 6, 2, 7, 1, 8, 0] rfl (hJ 1 [.ref x0, .int x1, .int x2, .long y3_15, .long x5, .int y7_16, .int x8, .int (x9 + 1)])
            · refine q_iconst hC dX11_estimateOf_109 rfl ?_
              refine q_goto hC 114 dX11_estimateOf_110 rfl ?_
              refine q_ic_ne hC 132 dX11_estimateOf_114 rfl ?_ ?_
              · refine q_lload hC 5 dX11_estimateOf_132 rfl ?_
                refine q_iload hC 0 dX11_estimateOf_134 rfl ?_
                refine q_i2l hC dX11_estimateOf_136 ?_
                refine q_ladd hC dX11_estimateOf_137 ?_
                refine q_lstore hC (fun y5_17 => [(5, .long y5_17), (10, .int y10_10), (0, .ref x0), (1, .int x1), (2, .int x2), (3, .long x3), (7, .int x7), (8, .int x8), (9, .int x9)]) dX11_estimateOf_138 (Nat.le_of_ble_eq_true rfl) (fun _ => rfl) (fun y5_17 => ?_)
                refine q_iload hC 7 dX11_estimateOf_140 rfl ?_
                refine q_iconst hC dX11_estimateOf_142 rfl ?_
                refine q_iadd hC dX11_estimateOf_143 ?_
                refine q_istore hC (fun y8_18 => [(8, .int y8_18), (5, .long y5_17), (10, .int y10_10), (0, .ref x0), (1, .int x1), (2, .int x2), (3, .long x3), (7, .int x7), (9, .int x9)]) dX11_estimateOf_144 (Nat.le_of_ble_eq_true rfl) (fun _ => rfl) (fun y8_18 => ?_)
                refine q_iincA hC (loc' := [(9, .int (x9 + 1)), (8, .int y8_18), (5, .long y5_17), (10, .int y10_10), (0, .ref x0), (1, .int x1), (2, .int x2), (3, .long x3), (7, .int x7)]) 8 1 dX11_estimateOf_146 rfl rfl (Nat.le_of_ble_eq_true rfl) rfl ?_
                refine q_goto hC 31 dX11_estimateOf_149 rfl ?_
                exact c_sub [4, 5, 6, 7, 2, 8, 1, 0] rfl (hJ 1 [.ref x0, .int x1, .int x2, .long x3, .long y5_17, .int x7, .int y8_18, .int (x9 + 1)])
              · refine q_lload_n hC 4 dX11_estimateOf_117 rfl rfl ?_
                refine q_iload hC 0 dX11_estimateOf_118 rfl ?_
                refine q_i2l hC dX11_estimateOf_120 ?_
                refine q_ladd hC dX11_estimateOf_121 ?_
                refine q_lstore_n hC (fun y3_19 => [(3, .long y3_19), (10, .int y10_10), (0, .ref x0), (1, .int x1), (2, .int x2), (5, .long x5), (7, .int x7), (8, .int x8), (9, .int x9)]) dX11_estimateOf_122 rfl (Nat.le_of_ble_eq_true rfl) (fun _ => rfl) (fun y3_19 => ?_)
                refine q_iload hC 6 dX11_estimateOf_123 rfl ?_
                refine q_iconst hC dX11_estimateOf_125 rfl ?_
                refine q_iadd hC dX11_estimateOf_126 ?_
                refine q_istore hC (fun y7_20 => [(7, .int y7_20), (3, .long y3_19), (10, .int y10_10), (0, .ref x0), (1, .int x1), (2, .int x2), (5, .long x5), (8, .int x8), (9, .int x9)]) dX11_estimateOf_127 (Nat.le_of_ble_eq_true rfl) (fun _ => rfl) (fun y7_20 => ?_)
                refine q_goto hC 146 dX11_estimateOf_129 rfl ?_
                refine q_iincA hC (loc' := [(9, .int (x9 + 1)), (7, .int y7_20), (3, .long y3_19), (10, .int y10_10), (0, .ref x0), (1, .int x1), (2, .int x2), (5, .long x5), (8, .int x8)]) 8 1 dX11_estimateOf_146 rfl rfl (Nat.le_of_ble_eq_true rfl) rfl ?_
                refine q_goto hC 31 dX11_estimateOf_149 rfl ?_
                exact c_sub [4, 5, 6, 2, 7, 1, 8, 0] rfl (hJ 1 [.ref x0, .int x1, .int x2, .long y3_19, .long x5, .int y7_20, .int x8, .int (x9 + 1)])
          · refine q_aload_n hC 0 dX11_estimateOf_75 rfl rfl ?_
            refine q_iload hC 7 dX11_estimateOf_76 rfl ?_
            refine q_cVI hC hnt (stk := []) (as := [.int x9]) sX11_pureOf (ci := 11) (by decide) rfl nX11_pureOf rfl w_907 w_909 w_910 w_830 w_908 (Nat.le_of_ble_eq_true rfl) dX11_estimateOf_78 rfl (fun v21 => ?_)
            refine q_goto hC 91 dX11_estimateOf_81 rfl ?_
            refine q_istoreA hC (loc' := [(10, .int v21), (0, .ref x0), (1, .int x1), (2, .int x2), (3, .long x3), (5, .long x5), (7, .int x7), (8, .int x8), (9, .int x9)]) dX11_estimateOf_91 (Nat.le_of_ble_eq_true rfl) rfl ?_
            refine q_aload_n hC 1 dX11_estimateOf_93 rfl rfl ?_
            refine q_iload hC 8 dX11_estimateOf_94 rfl ?_
            refine q_cVI hC hnt (stk := []) (as := [.int x9]) sX11_goesUp (ci := 11) (by decide) rfl nX11_goesUp rfl w_903 w_905 w_906 w_830 w_904 (Nat.le_of_ble_eq_true rfl) dX11_estimateOf_96 rfl (fun v22 => ?_)
            refine q_aload_n hC 1 dX11_estimateOf_99 rfl rfl ?_
            refine q_iload hC 8 dX11_estimateOf_100 rfl ?_
            refine q_iconst hC dX11_estimateOf_102 rfl ?_
            refine q_cVI hC hnt (stk := [.int v22]) (as := [.int x9, .int 2]) sX11_ofSight (ci := 11) (by decide) rfl nX11_ofSight rfl w_858 w_860 w_861 w_830 w_859 (Nat.le_of_ble_eq_true rfl) dX11_estimateOf_103 rfl (fun v23 => ?_)
            refine q_if_ne hC 113 dX11_estimateOf_106 rfl ?_ ?_
            · refine q_iconst hC dX11_estimateOf_113 rfl ?_
              refine q_ic_ne hC 132 dX11_estimateOf_114 rfl ?_ ?_
              · refine q_lload hC 5 dX11_estimateOf_132 rfl ?_
                refine q_iload hC 0 dX11_estimateOf_134 rfl ?_
                refine q_i2l hC dX11_estimateOf_136 ?_
                refine q_ladd hC dX11_estimateOf_137 ?_
                refine q_lstore hC (fun y5_24 => [(5, .long y5_24), (10, .int v21), (0, .ref x0), (1, .int x1), (2, .int x2), (3, .long x3), (7, .int x7), (8, .int x8), (9, .int x9)]) dX11_estimateOf_138 (Nat.le_of_ble_eq_true rfl) (fun _ => rfl) (fun y5_24 => ?_)
                refine q_iload hC 7 dX11_estimateOf_140 rfl ?_
                refine q_iconst hC dX11_estimateOf_142 rfl ?_
                refine q_iadd hC dX11_estimateOf_143 ?_
                refine q_istore hC (fun y8_25 => [(8, .int y8_25), (5, .long y5_24), (10, .int v21), (0, .ref x0), (1, .int x1), (2, .int x2), (3, .long x3), (7, .int x7), (9, .int x9)]) dX11_estimateOf_144 (Nat.le_of_ble_eq_true rfl) (fun _ => rfl) (fun y8_25 => ?_)
                refine q_iincA hC (loc' := [(9, .int (x9 + 1)), (8, .int y8_25), (5, .long y5_24), (10, .int v21), (0, .ref x0), (1, .int x1), (2, .int x2), (3, .long x3), (7, .int x7)]) 8 1 dX11_estimateOf_146 rfl rfl (Nat.le_of_ble_eq_true rfl) rfl ?_
                refine q_goto hC 31 dX11_estimateOf_149 rfl ?_
                exact c_sub [4, 5, 6, 7, 2, 8, 1, 0] rfl (hJ 1 [.ref x0, .int x1, .int x2, .long x3, .long y5_24, .int x7, .int y8_25, .int (x9 + 1)])
              · refine q_lload_n hC 4 dX11_estimateOf_117 rfl rfl ?_
                refine q_iload hC 0 dX11_estimateOf_118 rfl ?_
                refine q_i2l hC dX11_estimateOf_120 ?_
                refine q_ladd hC dX11_estimateOf_121 ?_
                refine q_lstore_n hC (fun y3_26 => [(3, .long y3_26), (10, .int v21), (0, .ref x0), (1, .int x1), (2, .int x2), (5, .long x5), (7, .int x7), (8, .int x8), (9, .int x9)]) dX11_estimateOf_122 rfl (Nat.le_of_ble_eq_true rfl) (fun _ => rfl) (fun y3_26 => ?_)
                refine q_iload hC 6 dX11_estimateOf_123 rfl ?_
                refine q_iconst hC dX11_estimateOf_125 rfl ?_
                refine q_iadd hC dX11_estimateOf_126 ?_
                refine q_istore hC (fun y7_27 => [(7, .int y7_27), (3, .long y3_26), (10, .int v21), (0, .ref x0), (1, .int x1), (2, .int x2), (5, .long x5), (8, .int x8), (9, .int x9)]) dX11_estimateOf_127 (Nat.le_of_ble_eq_true rfl) (fun _ => rfl) (fun y7_27 => ?_)
                refine q_goto hC 146 dX11_estimateOf_129 rfl ?_
                refine q_iincA hC (loc' := [(9, .int (x9 + 1)), (7, .int y7_27), (3, .long y3_26), (10, .int v21), (0, .ref x0), (1, .int x1), (2, .int x2), (5, .long x5), (8, .int x8)]) 8 1 dX11_estimateOf_146 rfl rfl (Nat.le_of_ble_eq_true rfl) rfl ?_
                refine q_goto hC 31 dX11_estimateOf_149 rfl ?_
                exact c_sub [4, 5, 6, 2, 7, 1, 8, 0] rfl (hJ 1 [.ref x0, .int x1, .int x2, .long y3_26, .long x5, .int y7_27, .int x8, .int (x9 + 1)])
            · refine q_iconst hC dX11_estimateOf_109 rfl ?_
              refine q_goto hC 114 dX11_estimateOf_110 rfl ?_
              refine q_ic_ne hC 132 dX11_estimateOf_114 rfl ?_ ?_
              · refine q_lload hC 5 dX11_estimateOf_132 rfl ?_
                refine q_iload hC 0 dX11_estimateOf_134 rfl ?_
                refine q_i2l hC dX11_estimateOf_136 ?_
                refine q_ladd hC dX11_estimateOf_137 ?_
                refine q_lstore hC (fun y5_28 => [(5, .long y5_28), (10, .int v21), (0, .ref x0), (1, .int x1), (2, .int x2), (3, .long x3), (7, .int x7), (8, .int x8), (9, .int x9)]) dX11_estimateOf_138 (Nat.le_of_ble_eq_true rfl) (fun _ => rfl) (fun y5_28 => ?_)
                refine q_iload hC 7 dX11_estimateOf_140 rfl ?_
                refine q_iconst hC dX11_estimateOf_142 rfl ?_
                refine q_iadd hC dX11_estimateOf_143 ?_
                refine q_istore hC (fun y8_29 => [(8, .int y8_29), (5, .long y5_28), (10, .int v21), (0, .ref x0), (1, .int x1), (2, .int x2), (3, .long x3), (7, .int x7), (9, .int x9)]) dX11_estimateOf_144 (Nat.le_of_ble_eq_true rfl) (fun _ => rfl) (fun y8_29 => ?_)
                refine q_iincA hC (loc' := [(9, .int (x9 + 1)), (8, .int y8_29), (5, .long y5_28), (10, .int v21), (0, .ref x0), (1, .int x1), (2, .int x2), (3, .long x3), (7, .int x7)]) 8 1 dX11_estimateOf_146 rfl rfl (Nat.le_of_ble_eq_true rfl) rfl ?_
                refine q_goto hC 31 dX11_estimateOf_149 rfl ?_
                exact c_sub [4, 5, 6, 7, 2, 8, 1, 0] rfl (hJ 1 [.ref x0, .int x1, .int x2, .long x3, .long y5_28, .int x7, .int y8_29, .int (x9 + 1)])
              · refine q_lload_n hC 4 dX11_estimateOf_117 rfl rfl ?_
                refine q_iload hC 0 dX11_estimateOf_118 rfl ?_
                refine q_i2l hC dX11_estimateOf_120 ?_
                refine q_ladd hC dX11_estimateOf_121 ?_
                refine q_lstore_n hC (fun y3_30 => [(3, .long y3_30), (10, .int v21), (0, .ref x0), (1, .int x1), (2, .int x2), (5, .long x5), (7, .int x7), (8, .int x8), (9, .int x9)]) dX11_estimateOf_122 rfl (Nat.le_of_ble_eq_true rfl) (fun _ => rfl) (fun y3_30 => ?_)
                refine q_iload hC 6 dX11_estimateOf_123 rfl ?_
                refine q_iconst hC dX11_estimateOf_125 rfl ?_
                refine q_iadd hC dX11_estimateOf_126 ?_
                refine q_istore hC (fun y7_31 => [(7, .int y7_31), (3, .long y3_30), (10, .int v21), (0, .ref x0), (1, .int x1), (2, .int x2), (5, .long x5), (8, .int x8), (9, .int x9)]) dX11_estimateOf_127 (Nat.le_of_ble_eq_true rfl) (fun _ => rfl) (fun y7_31 => ?_)
                refine q_goto hC 146 dX11_estimateOf_129 rfl ?_
                refine q_iincA hC (loc' := [(9, .int (x9 + 1)), (7, .int y7_31), (3, .long y3_30), (10, .int v21), (0, .ref x0), (1, .int x1), (2, .int x2), (5, .long x5), (8, .int x8)]) 8 1 dX11_estimateOf_146 rfl rfl (Nat.le_of_ble_eq_true rfl) rfl ?_
                refine q_goto hC 31 dX11_estimateOf_149 rfl ?_
                exact c_sub [4, 5, 6, 2, 7, 1, 8, 0] rfl (hJ 1 [.ref x0, .int x1, .int x2, .long y3_30, .long x5, .int y7_31, .int x8, .int (x9 + 1)])
        · refine q_goto hC 146 dX11_estimateOf_63 rfl ?_
          refine q_iincA hC (loc' := [(9, .int (x9 + 1)), (0, .ref x0), (1, .int x1), (2, .int x2), (3, .long x3), (5, .long x5), (7, .int x7), (8, .int x8)]) 7 1 dX11_estimateOf_146 rfl rfl (Nat.le_of_ble_eq_true rfl) rfl ?_
          refine q_goto hC 31 dX11_estimateOf_149 rfl ?_
          exact c_sub [1, 2, 3, 4, 5, 6, 7, 0] rfl (hJ 1 [.ref x0, .int x1, .int x2, .long x3, .long x5, .int x7, .int x8, .int (x9 + 1)])
  · exact c_no
theorem sX11_estimateOf : Snd yX11_estimateOf (.code yX11_estimateOf cX11_estimateOf 11 (some .int)) rmX11_estimateOf SX11_estimateOf := by
  refine Snd.of lX11_estimateOf (by decide +kernel) (fun _ => rfl) ?_
  intro Γ hC hnt hnm J hJ L a
  match L with
  | 0 => exact pX11_estimateOf_0 hC hnt J hJ a
  | 1 => exact pX11_estimateOf_1 hC hnt J hJ a
  | L + 2 => exact c_no
/-! SpiritWallModel.foundError()I -/
theorem dX11_foundError_0 : decode cX11_foundError 0 = .ok (.iconst 0, 1) := by decide +kernel
theorem dX11_foundError_1 : decode cX11_foundError 1 = .ok (.istore_n 1, 1) := by decide +kernel
theorem dX11_foundError_2 : decode cX11_foundError 2 = .ok (.iconst 0, 1) := by decide +kernel
theorem dX11_foundError_3 : decode cX11_foundError 3 = .ok (.istore_n 2, 1) := by decide +kernel
theorem dX11_foundError_4 : decode cX11_foundError 4 = .ok (.iload_n 2, 1) := by decide +kernel
theorem dX11_foundError_5 : decode cX11_foundError 5 = .ok (.aload_n 0, 1) := by decide +kernel
theorem dX11_foundError_6 : decode cX11_foundError 6 = .ok (.invokevirtual 85, 3) := by decide +kernel
theorem dX11_foundError_9 : decode cX11_foundError 9 = .ok (.if_icmp .ge 102, 3) := by decide +kernel
theorem dX11_foundError_12 : decode cX11_foundError 12 = .ok (.iload_n 2, 1) := by decide +kernel
theorem dX11_foundError_13 : decode cX11_foundError 13 = .ok (.iconst 1, 1) := by decide +kernel
theorem dX11_foundError_14 : decode cX11_foundError 14 = .ok (.iadd, 1) := by decide +kernel
theorem dX11_foundError_15 : decode cX11_foundError 15 = .ok (.istore_n 3, 1) := by decide +kernel
theorem dX11_foundError_16 : decode cX11_foundError 16 = .ok (.iload_n 3, 1) := by decide +kernel
theorem dX11_foundError_17 : decode cX11_foundError 17 = .ok (.aload_n 0, 1) := by decide +kernel
theorem dX11_foundError_18 : decode cX11_foundError 18 = .ok (.invokevirtual 85, 3) := by decide +kernel
theorem dX11_foundError_21 : decode cX11_foundError 21 = .ok (.if_icmp .ge 84, 3) := by decide +kernel
theorem dX11_foundError_24 : decode cX11_foundError 24 = .ok (.aload_n 0, 1) := by decide +kernel
theorem dX11_foundError_25 : decode cX11_foundError 25 = .ok (.iload_n 2, 1) := by decide +kernel
theorem dX11_foundError_26 : decode cX11_foundError 26 = .ok (.iload_n 3, 1) := by decide +kernel
theorem dX11_foundError_27 : decode cX11_foundError 27 = .ok (.invokevirtual 155, 3) := by decide +kernel
theorem dX11_foundError_30 : decode cX11_foundError 30 = .ok (.istore 4, 2) := by decide +kernel
theorem dX11_foundError_32 : decode cX11_foundError 32 = .ok (.iload 4, 2) := by decide +kernel
theorem dX11_foundError_34 : decode cX11_foundError 34 = .ok (.ldc 140, 2) := by decide +kernel
theorem dX11_foundError_36 : decode cX11_foundError 36 = .ok (.if_icmp .ne 6, 3) := by decide +kernel
theorem dX11_foundError_39 : decode cX11_foundError 39 = .ok (.goto 60, 3) := by decide +kernel
theorem dX11_foundError_42 : decode cX11_foundError 42 = .ok (.iload_n 1, 1) := by decide +kernel
theorem dX11_foundError_43 : decode cX11_foundError 43 = .ok (.istore 5, 2) := by decide +kernel
theorem dX11_foundError_45 : decode cX11_foundError 45 = .ok (.iload 5, 2) := by decide +kernel
theorem dX11_foundError_47 : decode cX11_foundError 47 = .ok (.ifCond .le 39, 3) := by decide +kernel
theorem dX11_foundError_50 : decode cX11_foundError 50 = .ok (.aload_n 0, 1) := by decide +kernel
theorem dX11_foundError_51 : decode cX11_foundError 51 = .ok (.getfield 28, 3) := by decide +kernel
theorem dX11_foundError_54 : decode cX11_foundError 54 = .ok (.iload 5, 2) := by decide +kernel
theorem dX11_foundError_56 : decode cX11_foundError 56 = .ok (.iconst 1, 1) := by decide +kernel
theorem dX11_foundError_57 : decode cX11_foundError 57 = .ok (.isub, 1) := by decide +kernel
theorem dX11_foundError_58 : decode cX11_foundError 58 = .ok (.iaload, 1) := by decide +kernel
theorem dX11_foundError_59 : decode cX11_foundError 59 = .ok (.iload 4, 2) := by decide +kernel
theorem dX11_foundError_61 : decode cX11_foundError 61 = .ok (.if_icmp .le 25, 3) := by decide +kernel
theorem dX11_foundError_64 : decode cX11_foundError 64 = .ok (.aload_n 0, 1) := by decide +kernel
theorem dX11_foundError_65 : decode cX11_foundError 65 = .ok (.getfield 28, 3) := by decide +kernel
theorem dX11_foundError_68 : decode cX11_foundError 68 = .ok (.iload 5, 2) := by decide +kernel
theorem dX11_foundError_70 : decode cX11_foundError 70 = .ok (.aload_n 0, 1) := by decide +kernel
theorem dX11_foundError_71 : decode cX11_foundError 71 = .ok (.getfield 28, 3) := by decide +kernel
theorem dX11_foundError_74 : decode cX11_foundError 74 = .ok (.iload 5, 2) := by decide +kernel
theorem dX11_foundError_76 : decode cX11_foundError 76 = .ok (.iconst 1, 1) := by decide +kernel
theorem dX11_foundError_77 : decode cX11_foundError 77 = .ok (.isub, 1) := by decide +kernel
theorem dX11_foundError_78 : decode cX11_foundError 78 = .ok (.iaload, 1) := by decide +kernel
theorem dX11_foundError_79 : decode cX11_foundError 79 = .ok (.iastore, 1) := by decide +kernel
theorem dX11_foundError_80 : decode cX11_foundError 80 = .ok (.iinc 5 (-1), 3) := by decide +kernel
theorem dX11_foundError_83 : decode cX11_foundError 83 = .ok (.goto (-38), 3) := by decide +kernel
theorem dX11_foundError_86 : decode cX11_foundError 86 = .ok (.aload_n 0, 1) := by decide +kernel
theorem dX11_foundError_87 : decode cX11_foundError 87 = .ok (.getfield 28, 3) := by decide +kernel
theorem dX11_foundError_90 : decode cX11_foundError 90 = .ok (.iload 5, 2) := by decide +kernel
theorem dX11_foundError_92 : decode cX11_foundError 92 = .ok (.iload 4, 2) := by decide +kernel
theorem dX11_foundError_94 : decode cX11_foundError 94 = .ok (.iastore, 1) := by decide +kernel
theorem dX11_foundError_95 : decode cX11_foundError 95 = .ok (.iload_n 1, 1) := by decide +kernel
theorem dX11_foundError_96 : decode cX11_foundError 96 = .ok (.iconst 1, 1) := by decide +kernel
theorem dX11_foundError_97 : decode cX11_foundError 97 = .ok (.iadd, 1) := by decide +kernel
theorem dX11_foundError_98 : decode cX11_foundError 98 = .ok (.istore_n 1, 1) := by decide +kernel
theorem dX11_foundError_99 : decode cX11_foundError 99 = .ok (.iinc 3 1, 3) := by decide +kernel
theorem dX11_foundError_102 : decode cX11_foundError 102 = .ok (.goto (-86), 3) := by decide +kernel
theorem dX11_foundError_105 : decode cX11_foundError 105 = .ok (.iinc 2 1, 3) := by decide +kernel
theorem dX11_foundError_108 : decode cX11_foundError 108 = .ok (.goto (-104), 3) := by decide +kernel
theorem dX11_foundError_111 : decode cX11_foundError 111 = .ok (.iload_n 1, 1) := by decide +kernel
theorem dX11_foundError_112 : decode cX11_foundError 112 = .ok (.ifCond .ne 7, 3) := by decide +kernel
theorem dX11_foundError_115 : decode cX11_foundError 115 = .ok (.iconst 0, 1) := by decide +kernel
theorem dX11_foundError_116 : decode cX11_foundError 116 = .ok (.goto 13, 3) := by decide +kernel
theorem dX11_foundError_119 : decode cX11_foundError 119 = .ok (.aload_n 0, 1) := by decide +kernel
theorem dX11_foundError_120 : decode cX11_foundError 120 = .ok (.getfield 28, 3) := by decide +kernel
theorem dX11_foundError_123 : decode cX11_foundError 123 = .ok (.iload_n 1, 1) := by decide +kernel
theorem dX11_foundError_124 : decode cX11_foundError 124 = .ok (.iconst 1, 1) := by decide +kernel
theorem dX11_foundError_125 : decode cX11_foundError 125 = .ok (.isub, 1) := by decide +kernel
theorem dX11_foundError_126 : decode cX11_foundError 126 = .ok (.iconst 2, 1) := by decide +kernel
theorem dX11_foundError_127 : decode cX11_foundError 127 = .ok (.idiv, 1) := by decide +kernel
theorem dX11_foundError_128 : decode cX11_foundError 128 = .ok (.iaload, 1) := by decide +kernel
theorem dX11_foundError_129 : decode cX11_foundError 129 = .ok (.ireturn, 1) := by decide +kernel
def rmX11_foundError : Room := rmk 11 0 0 268
theorem nX11_foundError : nameOk yX11_foundError 0 = true := by decide +kernel
def bX11_foundError_0 (J : JT) : List Value → Sem
  | [.ref x0] =>
    J 1 [.ref x0, .int 0, .int 0]
  | _ => no
def bX11_foundError_1 (J : JT) : List Value → Sem
  | [.ref x0, .int x1, .int x2] =>
    ob 11 x0 (cI SX11_marks [.ref x0] fun v1 =>
    br (v1 ≤ x2)
    (br (x1 = 0)
    (rI 0)
    (gR 11 9 x0 fun r2 =>
    nz 2 <|
    aI r2 ((x1 - 1) / 2) fun v3 =>
    rI v3))
    (lI (x2 + 1) fun y3_4 =>
    J 2 [.ref x0, .int x1, .int x2, .int y3_4]))
  | _ => no
def bX11_foundError_2 (J : JT) : List Value → Sem
  | [.ref x0, .int x1, .int x2, .int x3] =>
    ob 11 x0 (cI SX11_marks [.ref x0] fun v1 =>
    br (v1 ≤ x3)
    (J 1 [.ref x0, .int x1, .int (x2 + 1)])
    (ob 11 x0 (cI SX11_estimateOf [.ref x0, .int x2, .int x3] fun v2 =>
    br (v2 = ((-10000000) : Int32))
    (J 2 [.ref x0, .int x1, .int x2, .int (x3 + 1)])
    (J 3 [.ref x0, .int x1, .int x2, .int x3, .int v2, .int x1]))))
  | _ => no
def bX11_foundError_3 (J : JT) : List Value → Sem
  | [.ref x0, .int x1, .int x2, .int x3, .int x4, .int x5] =>
    br (x5 ≤ 0)
    (gR 11 9 x0 fun r1 =>
    sA r1 x5 x4 <|
    lI (x1 + 1) fun y1_2 =>
    J 2 [.ref x0, .int y1_2, .int x2, .int (x3 + 1)])
    (gR 11 9 x0 fun r3 =>
    aI r3 (x5 - 1) fun v4 =>
    br (v4 ≤ x4)
    (gR 11 9 x0 fun r5 =>
    sA r5 x5 x4 <|
    lI (x1 + 1) fun y1_6 =>
    J 2 [.ref x0, .int y1_6, .int x2, .int (x3 + 1)])
    (gR 11 9 x0 fun r7 =>
    gR 11 9 x0 fun r8 =>
    aI r8 (x5 - 1) fun v9 =>
    sA r7 x5 v9 <|
    J 3 [.ref x0, .int x1, .int x2, .int x3, .int x4, .int (x5 + (-1))]))
  | _ => no
def bX11_foundError (J : JT) : JT := fun L a => match L with
  | 0 => bX11_foundError_0 J a
  | 1 => bX11_foundError_1 J a
  | 2 => bX11_foundError_2 J a
  | 3 => bX11_foundError_3 J a
  | _ => no
def SX11_foundError : ST := mk 6 bX11_foundError
def lX11_foundError (L : Nat) (a : List Value) : Nat × Nat × Nat × List (Nat × Value) × List Value := match L with
  | 0 => (0, 0, 0, lv_args 0 a, [])
  | 1 => (0, 0, 4, List.zip [0, 1, 2] a, [])
  | 2 => (0, 0, 16, List.zip [0, 1, 2, 3] a, [])
  | 3 => (0, 0, 45, List.zip [0, 1, 2, 3, 4, 5] a, [])
  | _ => (0, 0, 0, [], [])
theorem pX11_foundError_0 {Γ : CT} (hC : Ctx Γ "SpiritWallModel" cX11_foundError 6 (some .int) rmX11_foundError) (hnt : NT Γ) (J : JT) (hJ : ∀ L a, Cor Γ 6 (lX11_foundError L a).1 (lX11_foundError L a).2.1 (lX11_foundError L a).2.2.1 (lX11_foundError L a).2.2.2.1 (lX11_foundError L a).2.2.2.2 (J L a)) (a : List Value) : Cor Γ 6 0 0 0 (lv_args 0 a) [] (bX11_foundError_0 J a) := by
  unfold bX11_foundError_0
  split
  · rename_i x0
    refine c_sub [0] rfl (loc' := [(0, .ref x0)]) ?_
    refine q_iconst hC dX11_foundError_0 rfl ?_
    refine q_istore_nA hC (loc' := [(1, .int 0), (0, .ref x0)]) dX11_foundError_1 rfl (Nat.le_of_ble_eq_true rfl) rfl ?_
    refine q_iconst hC dX11_foundError_2 rfl ?_
    refine q_istore_nA hC (loc' := [(2, .int 0), (1, .int 0), (0, .ref x0)]) dX11_foundError_3 rfl (Nat.le_of_ble_eq_true rfl) rfl ?_
    exact c_sub [2, 1, 0] rfl (hJ 1 [.ref x0, .int 0, .int 0])
  · exact c_no
theorem pX11_foundError_1 {Γ : CT} (hC : Ctx Γ "SpiritWallModel" cX11_foundError 6 (some .int) rmX11_foundError) (hnt : NT Γ) (J : JT) (hJ : ∀ L a, Cor Γ 6 (lX11_foundError L a).1 (lX11_foundError L a).2.1 (lX11_foundError L a).2.2.1 (lX11_foundError L a).2.2.2.1 (lX11_foundError L a).2.2.2.2 (J L a)) (a : List Value) : Cor Γ 6 0 0 4 (List.zip [0, 1, 2] a) [] (bX11_foundError_1 J a) := by
  unfold bX11_foundError_1
  split
  · rename_i x0 x1 x2
    refine c_sub [0, 1, 2] rfl (loc' := [(0, .ref x0), (1, .int x1), (2, .int x2)]) ?_
    refine q_iload_n hC 2 dX11_foundError_4 rfl rfl ?_
    refine q_aload_n hC 0 dX11_foundError_5 rfl rfl ?_
    refine q_cVI hC hnt (stk := [.int x2]) (as := []) sX11_marks (ci := 11) (by decide) rfl nX11_marks rfl w_843 w_845 w_846 w_830 w_844 (Nat.le_of_ble_eq_true rfl) dX11_foundError_6 rfl (fun v1 => ?_)
    refine q_ic_ge hC 111 dX11_foundError_9 rfl ?_ ?_
    · refine q_iload_n hC 1 dX11_foundError_111 rfl rfl ?_
      refine q_if_ne hC 119 dX11_foundError_112 rfl ?_ ?_
      · refine q_aload_n hC 0 dX11_foundError_119 rfl rfl ?_
        refine q_getR hC (by decide) (by decide) rfl w_815 dX11_foundError_120 (fun r2 => ?_)
        refine q_iload_n hC 1 dX11_foundError_123 rfl rfl ?_
        refine q_iconst hC dX11_foundError_124 rfl ?_
        refine q_isub hC dX11_foundError_125 ?_
        refine q_iconst hC dX11_foundError_126 rfl ?_
        refine q_idiv hC dX11_foundError_127 ?_
        refine q_iald hC dX11_foundError_128 (fun v3 => ?_)
        exact q_iret hC dX11_foundError_129 (Nat.le_of_ble_eq_true rfl) (Nat.le_of_ble_eq_true rfl)
      · refine q_iconst hC dX11_foundError_115 rfl ?_
        refine q_goto hC 129 dX11_foundError_116 rfl ?_
        exact q_iret hC dX11_foundError_129 (Nat.le_of_ble_eq_true rfl) (Nat.le_of_ble_eq_true rfl)
    · refine q_iload_n hC 2 dX11_foundError_12 rfl rfl ?_
      refine q_iconst hC dX11_foundError_13 rfl ?_
      refine q_iadd hC dX11_foundError_14 ?_
      refine q_istore_n hC (fun y3_4 => [(3, .int y3_4), (0, .ref x0), (1, .int x1), (2, .int x2)]) dX11_foundError_15 rfl (Nat.le_of_ble_eq_true rfl) (fun _ => rfl) (fun y3_4 => ?_)
      exact c_sub [1, 2, 3, 0] rfl (hJ 2 [.ref x0, .int x1, .int x2, .int y3_4])
  · exact c_no
theorem pX11_foundError_2 {Γ : CT} (hC : Ctx Γ "SpiritWallModel" cX11_foundError 6 (some .int) rmX11_foundError) (hnt : NT Γ) (J : JT) (hJ : ∀ L a, Cor Γ 6 (lX11_foundError L a).1 (lX11_foundError L a).2.1 (lX11_foundError L a).2.2.1 (lX11_foundError L a).2.2.2.1 (lX11_foundError L a).2.2.2.2 (J L a)) (a : List Value) : Cor Γ 6 0 0 16 (List.zip [0, 1, 2, 3] a) [] (bX11_foundError_2 J a) := by
  unfold bX11_foundError_2
  split
  · rename_i x0 x1 x2 x3
    refine c_sub [0, 1, 2, 3] rfl (loc' := [(0, .ref x0), (1, .int x1), (2, .int x2), (3, .int x3)]) ?_
    refine q_iload_n hC 3 dX11_foundError_16 rfl rfl ?_
    refine q_aload_n hC 0 dX11_foundError_17 rfl rfl ?_
    refine q_cVI hC hnt (stk := [.int x3]) (as := []) sX11_marks (ci := 11) (by decide) rfl nX11_marks rfl w_843 w_845 w_846 w_830 w_844 (Nat.le_of_ble_eq_true rfl) dX11_foundError_18 rfl (fun v1 => ?_)
    refine q_ic_ge hC 105 dX11_foundError_21 rfl ?_ ?_
    · refine q_iincA hC (loc' := [(2, .int (x2 + 1)), (0, .ref x0), (1, .int x1), (3, .int x3)]) 2 1 dX11_foundError_105 rfl rfl (Nat.le_of_ble_eq_true rfl) rfl ?_
      refine q_goto hC 4 dX11_foundError_108 rfl ?_
      exact c_sub [1, 2, 0] rfl (hJ 1 [.ref x0, .int x1, .int (x2 + 1)])
    · refine q_aload_n hC 0 dX11_foundError_24 rfl rfl ?_
      refine q_iload_n hC 2 dX11_foundError_25 rfl rfl ?_
      refine q_iload_n hC 3 dX11_foundError_26 rfl rfl ?_
      refine q_cVI hC hnt (stk := []) (as := [.int x2, .int x3]) sX11_estimateOf (ci := 11) (by decide) rfl nX11_estimateOf rfl w_911 w_913 w_914 w_830 w_912 (Nat.le_of_ble_eq_true rfl) dX11_foundError_27 rfl (fun v2 => ?_)
      refine q_istoreA hC (loc' := [(4, .int v2), (0, .ref x0), (1, .int x1), (2, .int x2), (3, .int x3)]) dX11_foundError_30 (Nat.le_of_ble_eq_true rfl) rfl ?_
      refine q_iload hC 0 dX11_foundError_32 rfl ?_
      refine q_ldc hC w_889 dX11_foundError_34 ?_
      refine q_ic_ne hC 42 dX11_foundError_36 rfl ?_ ?_
      · refine q_iload_n hC 2 dX11_foundError_42 rfl rfl ?_
        refine q_istoreA hC (loc' := [(5, .int x1), (4, .int v2), (0, .ref x0), (1, .int x1), (2, .int x2), (3, .int x3)]) dX11_foundError_43 (Nat.le_of_ble_eq_true rfl) rfl ?_
        exact c_sub [2, 3, 4, 5, 1, 0] rfl (hJ 3 [.ref x0, .int x1, .int x2, .int x3, .int v2, .int x1])
      · refine q_goto hC 99 dX11_foundError_39 rfl ?_
        refine q_iincA hC (loc' := [(3, .int (x3 + 1)), (4, .int v2), (0, .ref x0), (1, .int x1), (2, .int x2)]) 4 1 dX11_foundError_99 rfl rfl (Nat.le_of_ble_eq_true rfl) rfl ?_
        refine q_goto hC 16 dX11_foundError_102 rfl ?_
        exact c_sub [2, 3, 4, 0] rfl (hJ 2 [.ref x0, .int x1, .int x2, .int (x3 + 1)])
  · exact c_no
theorem pX11_foundError_3 {Γ : CT} (hC : Ctx Γ "SpiritWallModel" cX11_foundError 6 (some .int) rmX11_foundError) (hnt : NT Γ) (J : JT) (hJ : ∀ L a, Cor Γ 6 (lX11_foundError L a).1 (lX11_foundError L a).2.1 (lX11_foundError L a).2.2.1 (lX11_foundError L a).2.2.2.1 (lX11_foundError L a).2.2.2.2 (J L a)) (a : List Value) : Cor Γ 6 0 0 45 (List.zip [0, 1, 2, 3, 4, 5] a) [] (bX11_foundError_3 J a) := by
  unfold bX11_foundError_3
  split
  · rename_i x0 x1 x2 x3 x4 x5
    refine c_sub [0, 1, 2, 3, 4, 5] rfl (loc' := [(0, .ref x0), (1, .int x1), (2, .int x2), (3, .int x3), (4, .int x4), (5, .int x5)]) ?_
    refine q_iload hC 5 dX11_foundError_45 rfl ?_
    refine q_if_le hC 86 dX11_foundError_47 rfl ?_ ?_
    · refine q_aload_n hC 0 dX11_foundError_86 rfl rfl ?_
      refine q_getR hC (by decide) (by decide) rfl w_815 dX11_foundError_87 (fun r1 => ?_)
      refine q_iload hC 5 dX11_foundError_90 rfl ?_
      refine q_iload hC 4 dX11_foundError_92 rfl ?_
      refine q_iast hC dX11_foundError_94 ?_
      refine q_iload_n hC 1 dX11_foundError_95 rfl rfl ?_
      refine q_iconst hC dX11_foundError_96 rfl ?_
      refine q_iadd hC dX11_foundError_97 ?_
      refine q_istore_n hC (fun y1_2 => [(1, .int y1_2), (0, .ref x0), (2, .int x2), (3, .int x3), (4, .int x4), (5, .int x5)]) dX11_foundError_98 rfl (Nat.le_of_ble_eq_true rfl) (fun _ => rfl) (fun y1_2 => ?_)
      refine q_iincA hC (loc' := [(3, .int (x3 + 1)), (1, .int y1_2), (0, .ref x0), (2, .int x2), (4, .int x4), (5, .int x5)]) 3 1 dX11_foundError_99 rfl rfl (Nat.le_of_ble_eq_true rfl) rfl ?_
      refine q_goto hC 16 dX11_foundError_102 rfl ?_
      exact c_sub [2, 1, 3, 0] rfl (hJ 2 [.ref x0, .int y1_2, .int x2, .int (x3 + 1)])
    · refine q_aload_n hC 0 dX11_foundError_50 rfl rfl ?_
      refine q_getR hC (by decide) (by decide) rfl w_815 dX11_foundError_51 (fun r3 => ?_)
      refine q_iload hC 5 dX11_foundError_54 rfl ?_
      refine q_iconst hC dX11_foundError_56 rfl ?_
      refine q_isub hC dX11_foundError_57 ?_
      refine q_iald hC dX11_foundError_58 (fun v4 => ?_)
      refine q_iload hC 4 dX11_foundError_59 rfl ?_
      refine q_ic_le hC 86 dX11_foundError_61 rfl ?_ ?_
      · refine q_aload_n hC 0 dX11_foundError_86 rfl rfl ?_
        refine q_getR hC (by decide) (by decide) rfl w_815 dX11_foundError_87 (fun r5 => ?_)
        refine q_iload hC 5 dX11_foundError_90 rfl ?_
        refine q_iload hC 4 dX11_foundError_92 rfl ?_
        refine q_iast hC dX11_foundError_94 ?_
        refine q_iload_n hC 1 dX11_foundError_95 rfl rfl ?_
        refine q_iconst hC dX11_foundError_96 rfl ?_
        refine q_iadd hC dX11_foundError_97 ?_
        refine q_istore_n hC (fun y1_6 => [(1, .int y1_6), (0, .ref x0), (2, .int x2), (3, .int x3), (4, .int x4), (5, .int x5)]) dX11_foundError_98 rfl (Nat.le_of_ble_eq_true rfl) (fun _ => rfl) (fun y1_6 => ?_)
        refine q_iincA hC (loc' := [(3, .int (x3 + 1)), (1, .int y1_6), (0, .ref x0), (2, .int x2), (4, .int x4), (5, .int x5)]) 3 1 dX11_foundError_99 rfl rfl (Nat.le_of_ble_eq_true rfl) rfl ?_
        refine q_goto hC 16 dX11_foundError_102 rfl ?_
        exact c_sub [2, 1, 3, 0] rfl (hJ 2 [.ref x0, .int y1_6, .int x2, .int (x3 + 1)])
      · refine q_aload_n hC 0 dX11_foundError_64 rfl rfl ?_
        refine q_getR hC (by decide) (by decide) rfl w_815 dX11_foundError_65 (fun r7 => ?_)
        refine q_iload hC 5 dX11_foundError_68 rfl ?_
        refine q_aload_n hC 0 dX11_foundError_70 rfl rfl ?_
        refine q_getR hC (by decide) (by decide) rfl w_815 dX11_foundError_71 (fun r8 => ?_)
        refine q_iload hC 5 dX11_foundError_74 rfl ?_
        refine q_iconst hC dX11_foundError_76 rfl ?_
        refine q_isub hC dX11_foundError_77 ?_
        refine q_iald hC dX11_foundError_78 (fun v9 => ?_)
        refine q_iast hC dX11_foundError_79 ?_
        refine q_iincA hC (loc' := [(5, .int (x5 + (-1))), (0, .ref x0), (1, .int x1), (2, .int x2), (3, .int x3), (4, .int x4)]) 5 (-1) dX11_foundError_80 rfl rfl (Nat.le_of_ble_eq_true rfl) rfl ?_
        refine q_goto hC 45 dX11_foundError_83 rfl ?_
        exact c_sub [1, 2, 3, 4, 5, 0] rfl (hJ 3 [.ref x0, .int x1, .int x2, .int x3, .int x4, .int (x5 + (-1))])
  · exact c_no
theorem sX11_foundError : Snd yX11_foundError (.code yX11_foundError cX11_foundError 6 (some .int)) rmX11_foundError SX11_foundError := by
  refine Snd.of lX11_foundError (by decide +kernel) (fun _ => rfl) ?_
  intro Γ hC hnt hnm J hJ L a
  match L with
  | 0 => exact pX11_foundError_0 hC hnt J hJ a
  | 1 => exact pX11_foundError_1 hC hnt J hJ a
  | 2 => exact pX11_foundError_2 hC hnt J hJ a
  | 3 => exact pX11_foundError_3 hC hnt J hJ a
  | L + 4 => exact c_no
/-! SpiritWallModel.errorNow()I -/
theorem dX11_errorNow_0 : decode cX11_errorNow 0 = .ok (.aload_n 0, 1) := by decide +kernel
theorem dX11_errorNow_1 : decode cX11_errorNow 1 = .ok (.getfield 7, 3) := by decide +kernel
theorem dX11_errorNow_4 : decode cX11_errorNow 4 = .ok (.bipush 6, 2) := by decide +kernel
theorem dX11_errorNow_6 : decode cX11_errorNow 6 = .ok (.iaload, 1) := by decide +kernel
theorem dX11_errorNow_7 : decode cX11_errorNow 7 = .ok (.iconst 1, 1) := by decide +kernel
theorem dX11_errorNow_8 : decode cX11_errorNow 8 = .ok (.if_icmp .ne 13, 3) := by decide +kernel
theorem dX11_errorNow_11 : decode cX11_errorNow 11 = .ok (.aload_n 0, 1) := by decide +kernel
theorem dX11_errorNow_12 : decode cX11_errorNow 12 = .ok (.getfield 7, 3) := by decide +kernel
theorem dX11_errorNow_15 : decode cX11_errorNow 15 = .ok (.bipush 7, 2) := by decide +kernel
theorem dX11_errorNow_17 : decode cX11_errorNow 17 = .ok (.iaload, 1) := by decide +kernel
theorem dX11_errorNow_18 : decode cX11_errorNow 18 = .ok (.goto 7, 3) := by decide +kernel
theorem dX11_errorNow_21 : decode cX11_errorNow 21 = .ok (.aload_n 0, 1) := by decide +kernel
theorem dX11_errorNow_22 : decode cX11_errorNow 22 = .ok (.invokevirtual 158, 3) := by decide +kernel
theorem dX11_errorNow_25 : decode cX11_errorNow 25 = .ok (.ireturn, 1) := by decide +kernel
def rmX11_errorNow : Room := rmk 12 0 0 293
theorem nX11_errorNow : nameOk yX11_errorNow 0 = true := by decide +kernel
def bX11_errorNow_0 (J : JT) : List Value → Sem
  | [.ref x0] =>
    gR 11 1 x0 fun r1 =>
    aI r1 6 fun v2 =>
    br (v2 = (1 : Int32))
    (gR 11 1 x0 fun r4 =>
    aI r4 7 fun v5 =>
    rI v5)
    (ob 11 x0 (cI SX11_foundError [.ref x0] fun v3 =>
    rI v3))
  | _ => no
def bX11_errorNow (J : JT) : JT := fun L a => match L with
  | 0 => bX11_errorNow_0 J a
  | _ => no
def SX11_errorNow : ST := mk 1 bX11_errorNow
def lX11_errorNow (L : Nat) (a : List Value) : Nat × Nat × Nat × List (Nat × Value) × List Value := match L with
  | 0 => (0, 0, 0, lv_args 0 a, [])
  | _ => (0, 0, 0, [], [])
theorem pX11_errorNow_0 {Γ : CT} (hC : Ctx Γ "SpiritWallModel" cX11_errorNow 1 (some .int) rmX11_errorNow) (hnt : NT Γ) (J : JT) (hJ : ∀ L a, Cor Γ 1 (lX11_errorNow L a).1 (lX11_errorNow L a).2.1 (lX11_errorNow L a).2.2.1 (lX11_errorNow L a).2.2.2.1 (lX11_errorNow L a).2.2.2.2 (J L a)) (a : List Value) : Cor Γ 1 0 0 0 (lv_args 0 a) [] (bX11_errorNow_0 J a) := by
  unfold bX11_errorNow_0
  split
  · rename_i x0
    refine c_sub [0] rfl (loc' := [(0, .ref x0)]) ?_
    refine q_aload_n hC 0 dX11_errorNow_0 rfl rfl ?_
    refine q_getR hC (by decide) (by decide) rfl w_808 dX11_errorNow_1 (fun r1 => ?_)
    refine q_bipush hC (v := 6) dX11_errorNow_4 rfl ?_
    refine q_iald hC dX11_errorNow_6 (fun v2 => ?_)
    refine q_iconst hC dX11_errorNow_7 rfl ?_
    refine q_ic_ne hC 21 dX11_errorNow_8 rfl ?_ ?_
    · refine q_aload_n hC 0 dX11_errorNow_21 rfl rfl ?_
      refine q_cVI hC hnt (stk := []) (as := []) sX11_foundError (ci := 11) (by decide) rfl nX11_foundError rfl w_915 w_917 w_918 w_830 w_916 (Nat.le_of_ble_eq_true rfl) dX11_errorNow_22 rfl (fun v3 => ?_)
      exact q_iret hC dX11_errorNow_25 (Nat.le_of_ble_eq_true rfl) (Nat.le_of_ble_eq_true rfl)
    · refine q_aload_n hC 0 dX11_errorNow_11 rfl rfl ?_
      refine q_getR hC (by decide) (by decide) rfl w_808 dX11_errorNow_12 (fun r4 => ?_)
      refine q_bipush hC (v := 7) dX11_errorNow_15 rfl ?_
      refine q_iald hC dX11_errorNow_17 (fun v5 => ?_)
      refine q_goto hC 25 dX11_errorNow_18 rfl ?_
      exact q_iret hC dX11_errorNow_25 (Nat.le_of_ble_eq_true rfl) (Nat.le_of_ble_eq_true rfl)
  · exact c_no
theorem sX11_errorNow : Snd yX11_errorNow (.code yX11_errorNow cX11_errorNow 1 (some .int)) rmX11_errorNow SX11_errorNow := by
  refine Snd.of lX11_errorNow (by decide +kernel) (fun _ => rfl) ?_
  intro Γ hC hnt hnm J hJ L a
  match L with
  | 0 => exact pX11_errorNow_0 hC hnt J hJ a
  | L + 1 => exact c_no
/-! SpiritWallModel.riseOf(I)I -/
theorem dX11_riseOf_0 : decode cX11_riseOf 0 = .ok (.aload_n 0, 1) := by decide +kernel
theorem dX11_riseOf_1 : decode cX11_riseOf 1 = .ok (.aload_n 0, 1) := by decide +kernel
theorem dX11_riseOf_2 : decode cX11_riseOf 2 = .ok (.iload_n 1, 1) := by decide +kernel
theorem dX11_riseOf_3 : decode cX11_riseOf 3 = .ok (.iconst 0, 1) := by decide +kernel
theorem dX11_riseOf_4 : decode cX11_riseOf 4 = .ok (.invokevirtual 100, 3) := by decide +kernel
theorem dX11_riseOf_7 : decode cX11_riseOf 7 = .ok (.aload_n 0, 1) := by decide +kernel
theorem dX11_riseOf_8 : decode cX11_riseOf 8 = .ok (.iload_n 1, 1) := by decide +kernel
theorem dX11_riseOf_9 : decode cX11_riseOf 9 = .ok (.iconst 1, 1) := by decide +kernel
theorem dX11_riseOf_10 : decode cX11_riseOf 10 = .ok (.invokevirtual 100, 3) := by decide +kernel
theorem dX11_riseOf_13 : decode cX11_riseOf 13 = .ok (.invokevirtual 136, 3) := by decide +kernel
theorem dX11_riseOf_16 : decode cX11_riseOf 16 = .ok (.istore_n 2, 1) := by decide +kernel
theorem dX11_riseOf_17 : decode cX11_riseOf 17 = .ok (.aload_n 0, 1) := by decide +kernel
theorem dX11_riseOf_18 : decode cX11_riseOf 18 = .ok (.iload_n 1, 1) := by decide +kernel
theorem dX11_riseOf_19 : decode cX11_riseOf 19 = .ok (.iconst 2, 1) := by decide +kernel
theorem dX11_riseOf_20 : decode cX11_riseOf 20 = .ok (.invokevirtual 100, 3) := by decide +kernel
theorem dX11_riseOf_23 : decode cX11_riseOf 23 = .ok (.ifCond .ne 10, 3) := by decide +kernel
theorem dX11_riseOf_26 : decode cX11_riseOf 26 = .ok (.aload_n 0, 1) := by decide +kernel
theorem dX11_riseOf_27 : decode cX11_riseOf 27 = .ok (.getfield 161, 3) := by decide +kernel
theorem dX11_riseOf_30 : decode cX11_riseOf 30 = .ok (.goto 8, 3) := by decide +kernel
theorem dX11_riseOf_33 : decode cX11_riseOf 33 = .ok (.aload_n 0, 1) := by decide +kernel
theorem dX11_riseOf_34 : decode cX11_riseOf 34 = .ok (.getfield 161, 3) := by decide +kernel
theorem dX11_riseOf_37 : decode cX11_riseOf 37 = .ok (.ineg, 1) := by decide +kernel
theorem dX11_riseOf_38 : decode cX11_riseOf 38 = .ok (.istore_n 3, 1) := by decide +kernel
theorem dX11_riseOf_39 : decode cX11_riseOf 39 = .ok (.aload_n 0, 1) := by decide +kernel
theorem dX11_riseOf_40 : decode cX11_riseOf 40 = .ok (.iload_n 1, 1) := by decide +kernel
theorem dX11_riseOf_41 : decode cX11_riseOf 41 = .ok (.invokevirtual 150, 3) := by decide +kernel
theorem dX11_riseOf_44 : decode cX11_riseOf 44 = .ok (.iload_n 2, 1) := by decide +kernel
theorem dX11_riseOf_45 : decode cX11_riseOf 45 = .ok (.ifCond .eq 7, 3) := by decide +kernel
theorem dX11_riseOf_48 : decode cX11_riseOf 48 = .ok (.iload_n 3, 1) := by decide +kernel
theorem dX11_riseOf_49 : decode cX11_riseOf 49 = .ok (.goto 4, 3) := by decide +kernel
theorem dX11_riseOf_52 : decode cX11_riseOf 52 = .ok (.iconst 0, 1) := by decide +kernel
theorem dX11_riseOf_53 : decode cX11_riseOf 53 = .ok (.isub, 1) := by decide +kernel
theorem dX11_riseOf_54 : decode cX11_riseOf 54 = .ok (.ireturn, 1) := by decide +kernel
def rmX11_riseOf : Room := rmk 10 0 0 238
theorem nX11_riseOf : nameOk yX11_riseOf 1 = true := by decide +kernel
def bX11_riseOf_0 (J : JT) : List Value → Sem
  | [.ref x0, .int x1] =>
    ob 11 x0 (cI SX11_ofSight [.ref x0, .int x1, .int 0] fun v1 =>
    ob 11 x0 (cI SX11_ofSight [.ref x0, .int x1, .int 1] fun v2 =>
    ob 11 x0 (cI SX11_isOdd [.ref x0, .int v1, .int v2] fun v3 =>
    ob 11 x0 (cI SX11_ofSight [.ref x0, .int x1, .int 2] fun v4 =>
    br (v4 = 0)
    (gI 11 10 x0 fun v8 =>
    ob 11 x0 (cI SX11_pureOf [.ref x0, .int x1] fun v9 =>
    br (v3 = 0)
    (rI (v9 - 0))
    (rI (v9 - v8))))
    (gI 11 10 x0 fun v5 =>
    lI (-v5) fun y3_6 =>
    ob 11 x0 (cI SX11_pureOf [.ref x0, .int x1] fun v7 =>
    br (v3 = 0)
    (rI (v7 - 0))
    (rI (v7 - y3_6))))))))
  | _ => no
def bX11_riseOf (J : JT) : JT := fun L a => match L with
  | 0 => bX11_riseOf_0 J a
  | _ => no
def SX11_riseOf : ST := mk 4 bX11_riseOf
def lX11_riseOf (L : Nat) (a : List Value) : Nat × Nat × Nat × List (Nat × Value) × List Value := match L with
  | 0 => (0, 0, 0, lv_args 0 a, [])
  | _ => (0, 0, 0, [], [])
theorem pX11_riseOf_0 {Γ : CT} (hC : Ctx Γ "SpiritWallModel" cX11_riseOf 4 (some .int) rmX11_riseOf) (hnt : NT Γ) (J : JT) (hJ : ∀ L a, Cor Γ 4 (lX11_riseOf L a).1 (lX11_riseOf L a).2.1 (lX11_riseOf L a).2.2.1 (lX11_riseOf L a).2.2.2.1 (lX11_riseOf L a).2.2.2.2 (J L a)) (a : List Value) : Cor Γ 4 0 0 0 (lv_args 0 a) [] (bX11_riseOf_0 J a) := by
  unfold bX11_riseOf_0
  split
  · rename_i x0 x1
    refine c_sub [0, 1] rfl (loc' := [(0, .ref x0), (1, .int x1)]) ?_
    refine q_aload_n hC 0 dX11_riseOf_0 rfl rfl ?_
    refine q_aload_n hC 0 dX11_riseOf_1 rfl rfl ?_
    refine q_iload_n hC 1 dX11_riseOf_2 rfl rfl ?_
    refine q_iconst hC dX11_riseOf_3 rfl ?_
    refine q_cVI hC hnt (stk := [.ref x0]) (as := [.int x1, .int 0]) sX11_ofSight (ci := 11) (by decide) rfl nX11_ofSight rfl w_858 w_860 w_861 w_830 w_859 (Nat.le_of_ble_eq_true rfl) dX11_riseOf_4 rfl (fun v1 => ?_)
    refine q_aload_n hC 0 dX11_riseOf_7 rfl rfl ?_
    refine q_iload_n hC 1 dX11_riseOf_8 rfl rfl ?_
    refine q_iconst hC dX11_riseOf_9 rfl ?_
    refine q_cVI hC hnt (stk := [.int v1, .ref x0]) (as := [.int x1, .int 1]) sX11_ofSight (ci := 11) (by decide) rfl nX11_ofSight rfl w_858 w_860 w_861 w_830 w_859 (Nat.le_of_ble_eq_true rfl) dX11_riseOf_10 rfl (fun v2 => ?_)
    refine q_cVI hC hnt (stk := []) (as := [.int v1, .int v2]) sX11_isOdd (ci := 11) (by decide) rfl nX11_isOdd rfl w_890 w_892 w_893 w_830 w_891 (Nat.le_of_ble_eq_true rfl) dX11_riseOf_13 rfl (fun v3 => ?_)
    refine q_istore_nA hC (loc' := [(2, .int v3), (0, .ref x0), (1, .int x1)]) dX11_riseOf_16 rfl (Nat.le_of_ble_eq_true rfl) rfl ?_
    refine q_aload_n hC 1 dX11_riseOf_17 rfl rfl ?_
    refine q_iload_n hC 2 dX11_riseOf_18 rfl rfl ?_
    refine q_iconst hC dX11_riseOf_19 rfl ?_
    refine q_cVI hC hnt (stk := []) (as := [.int x1, .int 2]) sX11_ofSight (ci := 11) (by decide) rfl nX11_ofSight rfl w_858 w_860 w_861 w_830 w_859 (Nat.le_of_ble_eq_true rfl) dX11_riseOf_20 rfl (fun v4 => ?_)
    refine q_if_ne hC 33 dX11_riseOf_23 rfl ?_ ?_
    · refine q_aload_n hC 1 dX11_riseOf_33 rfl rfl ?_
      refine q_getI hC (by decide) (by decide) rfl w_919 dX11_riseOf_34 (fun v5 => ?_)
      refine q_ineg hC dX11_riseOf_37 ?_
      refine q_istore_n hC (fun y3_6 => [(3, .int y3_6), (2, .int v3), (0, .ref x0), (1, .int x1)]) dX11_riseOf_38 rfl (Nat.le_of_ble_eq_true rfl) (fun _ => rfl) (fun y3_6 => ?_)
      refine q_aload_n hC 2 dX11_riseOf_39 rfl rfl ?_
      refine q_iload_n hC 3 dX11_riseOf_40 rfl rfl ?_
      refine q_cVI hC hnt (stk := []) (as := [.int x1]) sX11_pureOf (ci := 11) (by decide) rfl nX11_pureOf rfl w_907 w_909 w_910 w_830 w_908 (Nat.le_of_ble_eq_true rfl) dX11_riseOf_41 rfl (fun v7 => ?_)
      refine q_iload_n hC 1 dX11_riseOf_44 rfl rfl ?_
      refine q_if_eq hC 52 dX11_riseOf_45 rfl ?_ ?_
      · refine q_iconst hC dX11_riseOf_52 rfl ?_
        refine q_isub hC dX11_riseOf_53 ?_
        exact q_iret hC dX11_riseOf_54 (Nat.le_of_ble_eq_true rfl) (Nat.le_of_ble_eq_true rfl)
      · refine q_iload_n hC 0 dX11_riseOf_48 rfl rfl ?_
        refine q_goto hC 53 dX11_riseOf_49 rfl ?_
        refine q_isub hC dX11_riseOf_53 ?_
        exact q_iret hC dX11_riseOf_54 (Nat.le_of_ble_eq_true rfl) (Nat.le_of_ble_eq_true rfl)
    · refine q_aload_n hC 1 dX11_riseOf_26 rfl rfl ?_
      refine q_getI hC (by decide) (by decide) rfl w_919 dX11_riseOf_27 (fun v8 => ?_)
      refine q_goto hC 38 dX11_riseOf_30 rfl ?_
      refine q_istore_nA hC (loc' := [(3, .int v8), (2, .int v3), (0, .ref x0), (1, .int x1)]) dX11_riseOf_38 rfl (Nat.le_of_ble_eq_true rfl) rfl ?_
      refine q_aload_n hC 2 dX11_riseOf_39 rfl rfl ?_
      refine q_iload_n hC 3 dX11_riseOf_40 rfl rfl ?_
      refine q_cVI hC hnt (stk := []) (as := [.int x1]) sX11_pureOf (ci := 11) (by decide) rfl nX11_pureOf rfl w_907 w_909 w_910 w_830 w_908 (Nat.le_of_ble_eq_true rfl) dX11_riseOf_41 rfl (fun v9 => ?_)
      refine q_iload_n hC 1 dX11_riseOf_44 rfl rfl ?_
      refine q_if_eq hC 52 dX11_riseOf_45 rfl ?_ ?_
      · refine q_iconst hC dX11_riseOf_52 rfl ?_
        refine q_isub hC dX11_riseOf_53 ?_
        exact q_iret hC dX11_riseOf_54 (Nat.le_of_ble_eq_true rfl) (Nat.le_of_ble_eq_true rfl)
      · refine q_iload_n hC 0 dX11_riseOf_48 rfl rfl ?_
        refine q_goto hC 53 dX11_riseOf_49 rfl ?_
        refine q_isub hC dX11_riseOf_53 ?_
        exact q_iret hC dX11_riseOf_54 (Nat.le_of_ble_eq_true rfl) (Nat.le_of_ble_eq_true rfl)
  · exact c_no
theorem sX11_riseOf : Snd yX11_riseOf (.code yX11_riseOf cX11_riseOf 4 (some .int)) rmX11_riseOf SX11_riseOf := by
  refine Snd.of lX11_riseOf (by decide +kernel) (fun _ => rfl) ?_
  intro Γ hC hnt hnm J hJ L a
  match L with
  | 0 => exact pX11_riseOf_0 hC hnt J hJ a
  | L + 1 => exact c_no
/-! SpiritWallModel.isEdge(II)Z -/
theorem dX11_isEdge_0 : decode cX11_isEdge 0 = .ok (.iload_n 1, 1) := by decide +kernel
theorem dX11_isEdge_1 : decode cX11_isEdge 1 = .ok (.iload_n 2, 1) := by decide +kernel
theorem dX11_isEdge_2 : decode cX11_isEdge 2 = .ok (.if_icmp .eq 20, 3) := by decide +kernel
theorem dX11_isEdge_5 : decode cX11_isEdge 5 = .ok (.aload_n 0, 1) := by decide +kernel
theorem dX11_isEdge_6 : decode cX11_isEdge 6 = .ok (.getfield 31, 3) := by decide +kernel
theorem dX11_isEdge_9 : decode cX11_isEdge 9 = .ok (.iload_n 1, 1) := by decide +kernel
theorem dX11_isEdge_10 : decode cX11_isEdge 10 = .ok (.iload_n 2, 1) := by decide +kernel
theorem dX11_isEdge_11 : decode cX11_isEdge 11 = .ok (.invokestatic 133, 3) := by decide +kernel
theorem dX11_isEdge_14 : decode cX11_isEdge 14 = .ok (.iaload, 1) := by decide +kernel
theorem dX11_isEdge_15 : decode cX11_isEdge 15 = .ok (.ifCond .le 7, 3) := by decide +kernel
theorem dX11_isEdge_18 : decode cX11_isEdge 18 = .ok (.iconst 1, 1) := by decide +kernel
theorem dX11_isEdge_19 : decode cX11_isEdge 19 = .ok (.goto 4, 3) := by decide +kernel
theorem dX11_isEdge_22 : decode cX11_isEdge 22 = .ok (.iconst 0, 1) := by decide +kernel
theorem dX11_isEdge_23 : decode cX11_isEdge 23 = .ok (.ireturn, 1) := by decide +kernel
def rmX11_isEdge : Room := rmk 7 0 0 171
theorem nX11_isEdge : nameOk yX11_isEdge 2 = true := by decide +kernel
def bX11_isEdge_0 (J : JT) : List Value → Sem
  | [.ref x0, .int x1, .int x2] =>
    br (x1 = x2)
    (rZ 0)
    (gR 11 11 x0 fun r1 =>
    cI SX11_pairOf [.int x1, .int x2] fun v2 =>
    aI r1 v2 fun v3 =>
    br (v3 ≤ 0)
    (rZ 0)
    (rZ 1))
  | _ => no
def bX11_isEdge (J : JT) : JT := fun L a => match L with
  | 0 => bX11_isEdge_0 J a
  | _ => no
def SX11_isEdge : ST := mk 3 bX11_isEdge
def lX11_isEdge (L : Nat) (a : List Value) : Nat × Nat × Nat × List (Nat × Value) × List Value := match L with
  | 0 => (0, 0, 0, lv_args 0 a, [])
  | _ => (0, 0, 0, [], [])
theorem pX11_isEdge_0 {Γ : CT} (hC : Ctx Γ "SpiritWallModel" cX11_isEdge 3 (some .boolean) rmX11_isEdge) (hnt : NT Γ) (J : JT) (hJ : ∀ L a, Cor Γ 3 (lX11_isEdge L a).1 (lX11_isEdge L a).2.1 (lX11_isEdge L a).2.2.1 (lX11_isEdge L a).2.2.2.1 (lX11_isEdge L a).2.2.2.2 (J L a)) (a : List Value) : Cor Γ 3 0 0 0 (lv_args 0 a) [] (bX11_isEdge_0 J a) := by
  unfold bX11_isEdge_0
  split
  · rename_i x0 x1 x2
    refine c_sub [0, 1, 2] rfl (loc' := [(0, .ref x0), (1, .int x1), (2, .int x2)]) ?_
    refine q_iload_n hC 1 dX11_isEdge_0 rfl rfl ?_
    refine q_iload_n hC 2 dX11_isEdge_1 rfl rfl ?_
    refine q_ic_eq hC 22 dX11_isEdge_2 rfl ?_ ?_
    · refine q_iconst hC dX11_isEdge_22 rfl ?_
      exact q_zret hC dX11_isEdge_23 (Nat.le_of_ble_eq_true rfl) (Nat.le_of_ble_eq_true rfl)
    · refine q_aload_n hC 0 dX11_isEdge_5 rfl rfl ?_
      refine q_getR hC (by decide) (by decide) rfl w_816 dX11_isEdge_6 (fun r1 => ?_)
      refine q_iload_n hC 1 dX11_isEdge_9 rfl rfl ?_
      refine q_iload_n hC 2 dX11_isEdge_10 rfl rfl ?_
      refine q_cSI hC hnt (stk := [.ref r1]) (as := [.int x1, .int x2]) sX11_pairOf nX11_pairOf rfl w_886 w_888 w_830 w_887 (Nat.le_of_ble_eq_true rfl) dX11_isEdge_11 rfl (fun v2 => ?_)
      refine q_iald hC dX11_isEdge_14 (fun v3 => ?_)
      refine q_if_le hC 22 dX11_isEdge_15 rfl ?_ ?_
      · refine q_iconst hC dX11_isEdge_22 rfl ?_
        exact q_zret hC dX11_isEdge_23 (Nat.le_of_ble_eq_true rfl) (Nat.le_of_ble_eq_true rfl)
      · refine q_iconst hC dX11_isEdge_18 rfl ?_
        refine q_goto hC 23 dX11_isEdge_19 rfl ?_
        exact q_zret hC dX11_isEdge_23 (Nat.le_of_ble_eq_true rfl) (Nat.le_of_ble_eq_true rfl)
  · exact c_no
theorem sX11_isEdge : Snd yX11_isEdge (.code yX11_isEdge cX11_isEdge 3 (some .boolean)) rmX11_isEdge SX11_isEdge := by
  refine Snd.of lX11_isEdge (by decide +kernel) (fun _ => rfl) ?_
  intro Γ hC hnt hnm J hJ L a
  match L with
  | 0 => exact pX11_isEdge_0 hC hnt J hJ a
  | L + 1 => exact c_no
/-! SpiritWallModel.riseFrom(II)I -/
theorem dX11_riseFrom_0 : decode cX11_riseFrom 0 = .ok (.iload_n 1, 1) := by decide +kernel
theorem dX11_riseFrom_1 : decode cX11_riseFrom 1 = .ok (.iload_n 2, 1) := by decide +kernel
theorem dX11_riseFrom_2 : decode cX11_riseFrom 2 = .ok (.if_icmp .ge 16, 3) := by decide +kernel
theorem dX11_riseFrom_5 : decode cX11_riseFrom 5 = .ok (.aload_n 0, 1) := by decide +kernel
theorem dX11_riseFrom_6 : decode cX11_riseFrom 6 = .ok (.getfield 34, 3) := by decide +kernel
theorem dX11_riseFrom_9 : decode cX11_riseFrom 9 = .ok (.iload_n 1, 1) := by decide +kernel
theorem dX11_riseFrom_10 : decode cX11_riseFrom 10 = .ok (.iload_n 2, 1) := by decide +kernel
theorem dX11_riseFrom_11 : decode cX11_riseFrom 11 = .ok (.invokestatic 133, 3) := by decide +kernel
theorem dX11_riseFrom_14 : decode cX11_riseFrom 14 = .ok (.iaload, 1) := by decide +kernel
theorem dX11_riseFrom_15 : decode cX11_riseFrom 15 = .ok (.goto 14, 3) := by decide +kernel
theorem dX11_riseFrom_18 : decode cX11_riseFrom 18 = .ok (.aload_n 0, 1) := by decide +kernel
theorem dX11_riseFrom_19 : decode cX11_riseFrom 19 = .ok (.getfield 34, 3) := by decide +kernel
theorem dX11_riseFrom_22 : decode cX11_riseFrom 22 = .ok (.iload_n 1, 1) := by decide +kernel
theorem dX11_riseFrom_23 : decode cX11_riseFrom 23 = .ok (.iload_n 2, 1) := by decide +kernel
theorem dX11_riseFrom_24 : decode cX11_riseFrom 24 = .ok (.invokestatic 133, 3) := by decide +kernel
theorem dX11_riseFrom_27 : decode cX11_riseFrom 27 = .ok (.iaload, 1) := by decide +kernel
theorem dX11_riseFrom_28 : decode cX11_riseFrom 28 = .ok (.ineg, 1) := by decide +kernel
theorem dX11_riseFrom_29 : decode cX11_riseFrom 29 = .ok (.ireturn, 1) := by decide +kernel
def rmX11_riseFrom : Room := rmk 7 0 0 171
theorem nX11_riseFrom : nameOk yX11_riseFrom 2 = true := by decide +kernel
def bX11_riseFrom_0 (J : JT) : List Value → Sem
  | [.ref x0, .int x1, .int x2] =>
    br (x2 ≤ x1)
    (gR 11 12 x0 fun r1 =>
    cI SX11_pairOf [.int x1, .int x2] fun v2 =>
    aI r1 v2 fun v3 =>
    rI (-v3))
    (gR 11 12 x0 fun r4 =>
    cI SX11_pairOf [.int x1, .int x2] fun v5 =>
    aI r4 v5 fun v6 =>
    rI v6)
  | _ => no
def bX11_riseFrom (J : JT) : JT := fun L a => match L with
  | 0 => bX11_riseFrom_0 J a
  | _ => no
def SX11_riseFrom : ST := mk 3 bX11_riseFrom
def lX11_riseFrom (L : Nat) (a : List Value) : Nat × Nat × Nat × List (Nat × Value) × List Value := match L with
  | 0 => (0, 0, 0, lv_args 0 a, [])
  | _ => (0, 0, 0, [], [])
theorem pX11_riseFrom_0 {Γ : CT} (hC : Ctx Γ "SpiritWallModel" cX11_riseFrom 3 (some .int) rmX11_riseFrom) (hnt : NT Γ) (J : JT) (hJ : ∀ L a, Cor Γ 3 (lX11_riseFrom L a).1 (lX11_riseFrom L a).2.1 (lX11_riseFrom L a).2.2.1 (lX11_riseFrom L a).2.2.2.1 (lX11_riseFrom L a).2.2.2.2 (J L a)) (a : List Value) : Cor Γ 3 0 0 0 (lv_args 0 a) [] (bX11_riseFrom_0 J a) := by
  unfold bX11_riseFrom_0
  split
  · rename_i x0 x1 x2
    refine c_sub [0, 1, 2] rfl (loc' := [(0, .ref x0), (1, .int x1), (2, .int x2)]) ?_
    refine q_iload_n hC 1 dX11_riseFrom_0 rfl rfl ?_
    refine q_iload_n hC 2 dX11_riseFrom_1 rfl rfl ?_
    refine q_ic_ge hC 18 dX11_riseFrom_2 rfl ?_ ?_
    · refine q_aload_n hC 0 dX11_riseFrom_18 rfl rfl ?_
      refine q_getR hC (by decide) (by decide) rfl w_817 dX11_riseFrom_19 (fun r1 => ?_)
      refine q_iload_n hC 1 dX11_riseFrom_22 rfl rfl ?_
      refine q_iload_n hC 2 dX11_riseFrom_23 rfl rfl ?_
      refine q_cSI hC hnt (stk := [.ref r1]) (as := [.int x1, .int x2]) sX11_pairOf nX11_pairOf rfl w_886 w_888 w_830 w_887 (Nat.le_of_ble_eq_true rfl) dX11_riseFrom_24 rfl (fun v2 => ?_)
      refine q_iald hC dX11_riseFrom_27 (fun v3 => ?_)
      refine q_ineg hC dX11_riseFrom_28 ?_
      exact q_iret hC dX11_riseFrom_29 (Nat.le_of_ble_eq_true rfl) (Nat.le_of_ble_eq_true rfl)
    · refine q_aload_n hC 0 dX11_riseFrom_5 rfl rfl ?_
      refine q_getR hC (by decide) (by decide) rfl w_817 dX11_riseFrom_6 (fun r4 => ?_)
      refine q_iload_n hC 1 dX11_riseFrom_9 rfl rfl ?_
      refine q_iload_n hC 2 dX11_riseFrom_10 rfl rfl ?_
      refine q_cSI hC hnt (stk := [.ref r4]) (as := [.int x1, .int x2]) sX11_pairOf nX11_pairOf rfl w_886 w_888 w_830 w_887 (Nat.le_of_ble_eq_true rfl) dX11_riseFrom_11 rfl (fun v5 => ?_)
      refine q_iald hC dX11_riseFrom_14 (fun v6 => ?_)
      refine q_goto hC 29 dX11_riseFrom_15 rfl ?_
      exact q_iret hC dX11_riseFrom_29 (Nat.le_of_ble_eq_true rfl) (Nat.le_of_ble_eq_true rfl)
  · exact c_no
theorem sX11_riseFrom : Snd yX11_riseFrom (.code yX11_riseFrom cX11_riseFrom 3 (some .int)) rmX11_riseFrom SX11_riseFrom := by
  refine Snd.of lX11_riseFrom (by decide +kernel) (fun _ => rfl) ?_
  intro Γ hC hnt hnm J hJ L a
  match L with
  | 0 => exact pX11_riseFrom_0 hC hnt J hJ a
  | L + 1 => exact c_no
/-! java/lang/Math.floorDiv(II)I -/
theorem dJ9_floorDiv_7cf53_0 : decode cJ9_floorDiv_7cf53 0 = .ok (.iload_n 0, 1) := by decide +kernel
theorem dJ9_floorDiv_7cf53_1 : decode cJ9_floorDiv_7cf53 1 = .ok (.iload_n 1, 1) := by decide +kernel
theorem dJ9_floorDiv_7cf53_2 : decode cJ9_floorDiv_7cf53 2 = .ok (.idiv, 1) := by decide +kernel
theorem dJ9_floorDiv_7cf53_3 : decode cJ9_floorDiv_7cf53 3 = .ok (.istore_n 2, 1) := by decide +kernel
theorem dJ9_floorDiv_7cf53_4 : decode cJ9_floorDiv_7cf53 4 = .ok (.iload_n 0, 1) := by decide +kernel
theorem dJ9_floorDiv_7cf53_5 : decode cJ9_floorDiv_7cf53 5 = .ok (.iload_n 1, 1) := by decide +kernel
theorem dJ9_floorDiv_7cf53_6 : decode cJ9_floorDiv_7cf53 6 = .ok (.ixor, 1) := by decide +kernel
theorem dJ9_floorDiv_7cf53_7 : decode cJ9_floorDiv_7cf53 7 = .ok (.ifCond .ge 14, 3) := by decide +kernel
theorem dJ9_floorDiv_7cf53_10 : decode cJ9_floorDiv_7cf53 10 = .ok (.iload_n 2, 1) := by decide +kernel
theorem dJ9_floorDiv_7cf53_11 : decode cJ9_floorDiv_7cf53 11 = .ok (.iload_n 1, 1) := by decide +kernel
theorem dJ9_floorDiv_7cf53_12 : decode cJ9_floorDiv_7cf53 12 = .ok (.imul, 1) := by decide +kernel
theorem dJ9_floorDiv_7cf53_13 : decode cJ9_floorDiv_7cf53 13 = .ok (.iload_n 0, 1) := by decide +kernel
theorem dJ9_floorDiv_7cf53_14 : decode cJ9_floorDiv_7cf53 14 = .ok (.if_icmp .eq 7, 3) := by decide +kernel
theorem dJ9_floorDiv_7cf53_17 : decode cJ9_floorDiv_7cf53 17 = .ok (.iload_n 2, 1) := by decide +kernel
theorem dJ9_floorDiv_7cf53_18 : decode cJ9_floorDiv_7cf53 18 = .ok (.iconst 1, 1) := by decide +kernel
theorem dJ9_floorDiv_7cf53_19 : decode cJ9_floorDiv_7cf53 19 = .ok (.isub, 1) := by decide +kernel
theorem dJ9_floorDiv_7cf53_20 : decode cJ9_floorDiv_7cf53 20 = .ok (.ireturn, 1) := by decide +kernel
theorem dJ9_floorDiv_7cf53_21 : decode cJ9_floorDiv_7cf53 21 = .ok (.iload_n 2, 1) := by decide +kernel
theorem dJ9_floorDiv_7cf53_22 : decode cJ9_floorDiv_7cf53 22 = .ok (.ireturn, 1) := by decide +kernel
def rmJ9_floorDiv_7cf53 : Room := rmk 6 0 0 150
theorem nJ9_floorDiv_7cf53 : nameOk yJ9_floorDiv_7cf53 2 = true := by decide +kernel
def bJ9_floorDiv_7cf53_0 (J : JT) : List Value → Sem
  | [.int x0, .int x1] =>
    nz x1 <|
    lI (x0 / x1) fun y2_1 =>
    br (0 ≤ (x0 ^^^ x1))
    (rI y2_1)
    (br ((y2_1 * x1) = x0)
    (rI y2_1)
    (rI (y2_1 - 1)))
  | _ => no
def bJ9_floorDiv_7cf53 (J : JT) : JT := fun L a => match L with
  | 0 => bJ9_floorDiv_7cf53_0 J a
  | _ => no
def SJ9_floorDiv_7cf53 : ST := mk 3 bJ9_floorDiv_7cf53
def lJ9_floorDiv_7cf53 (L : Nat) (a : List Value) : Nat × Nat × Nat × List (Nat × Value) × List Value := match L with
  | 0 => (0, 0, 0, lv_args 0 a, [])
  | _ => (0, 0, 0, [], [])
theorem pJ9_floorDiv_7cf53_0 {Γ : CT} (hC : Ctx Γ "java/lang/Math" cJ9_floorDiv_7cf53 3 (some .int) rmJ9_floorDiv_7cf53) (hnt : NT Γ) (J : JT) (hJ : ∀ L a, Cor Γ 3 (lJ9_floorDiv_7cf53 L a).1 (lJ9_floorDiv_7cf53 L a).2.1 (lJ9_floorDiv_7cf53 L a).2.2.1 (lJ9_floorDiv_7cf53 L a).2.2.2.1 (lJ9_floorDiv_7cf53 L a).2.2.2.2 (J L a)) (a : List Value) : Cor Γ 3 0 0 0 (lv_args 0 a) [] (bJ9_floorDiv_7cf53_0 J a) := by
  unfold bJ9_floorDiv_7cf53_0
  split
  · rename_i x0 x1
    refine c_sub [0, 1] rfl (loc' := [(0, .int x0), (1, .int x1)]) ?_
    refine q_iload_n hC 0 dJ9_floorDiv_7cf53_0 rfl rfl ?_
    refine q_iload_n hC 1 dJ9_floorDiv_7cf53_1 rfl rfl ?_
    refine q_idiv hC dJ9_floorDiv_7cf53_2 ?_
    refine q_istore_n hC (fun y2_1 => [(2, .int y2_1), (0, .int x0), (1, .int x1)]) dJ9_floorDiv_7cf53_3 rfl (Nat.le_of_ble_eq_true rfl) (fun _ => rfl) (fun y2_1 => ?_)
    refine q_iload_n hC 1 dJ9_floorDiv_7cf53_4 rfl rfl ?_
    refine q_iload_n hC 2 dJ9_floorDiv_7cf53_5 rfl rfl ?_
    refine q_ixor hC dJ9_floorDiv_7cf53_6 ?_
    refine q_if_ge hC 21 dJ9_floorDiv_7cf53_7 rfl ?_ ?_
    · refine q_iload_n hC 0 dJ9_floorDiv_7cf53_21 rfl rfl ?_
      exact q_iret hC dJ9_floorDiv_7cf53_22 (Nat.le_of_ble_eq_true rfl) (Nat.le_of_ble_eq_true rfl)
    · refine q_iload_n hC 0 dJ9_floorDiv_7cf53_10 rfl rfl ?_
      refine q_iload_n hC 2 dJ9_floorDiv_7cf53_11 rfl rfl ?_
      refine q_imul hC dJ9_floorDiv_7cf53_12 ?_
      refine q_iload_n hC 1 dJ9_floorDiv_7cf53_13 rfl rfl ?_
      refine q_ic_eq hC 21 dJ9_floorDiv_7cf53_14 rfl ?_ ?_
      · refine q_iload_n hC 0 dJ9_floorDiv_7cf53_21 rfl rfl ?_
        exact q_iret hC dJ9_floorDiv_7cf53_22 (Nat.le_of_ble_eq_true rfl) (Nat.le_of_ble_eq_true rfl)
      · refine q_iload_n hC 0 dJ9_floorDiv_7cf53_17 rfl rfl ?_
        refine q_iconst hC dJ9_floorDiv_7cf53_18 rfl ?_
        refine q_isub hC dJ9_floorDiv_7cf53_19 ?_
        exact q_iret hC dJ9_floorDiv_7cf53_20 (Nat.le_of_ble_eq_true rfl) (Nat.le_of_ble_eq_true rfl)
  · exact c_no
theorem sJ9_floorDiv_7cf53 : Snd yJ9_floorDiv_7cf53 (.code yJ9_floorDiv_7cf53 cJ9_floorDiv_7cf53 3 (some .int)) rmJ9_floorDiv_7cf53 SJ9_floorDiv_7cf53 := by
  refine Snd.ofF lJ9_floorDiv_7cf53 (by decide +kernel) (fun _ => rfl) ?_
  intro Γ hC hnt hnm J hJ L a
  match L with
  | 0 => exact pJ9_floorDiv_7cf53_0 hC hnt J hJ a
  | L + 1 => exact c_no
/-! SpiritWallModel.findEdges()V -/
theorem dX11_findEdges_0 : decode cX11_findEdges 0 = .ok (.aload_n 0, 1) := by decide +kernel
theorem dX11_findEdges_1 : decode cX11_findEdges 1 = .ok (.aload_n 0, 1) := by decide +kernel
theorem dX11_findEdges_2 : decode cX11_findEdges 2 = .ok (.invokevirtual 164, 3) := by decide +kernel
theorem dX11_findEdges_5 : decode cX11_findEdges 5 = .ok (.putfield 161, 3) := by decide +kernel
theorem dX11_findEdges_8 : decode cX11_findEdges 8 = .ok (.iconst 0, 1) := by decide +kernel
theorem dX11_findEdges_9 : decode cX11_findEdges 9 = .ok (.istore_n 1, 1) := by decide +kernel
theorem dX11_findEdges_10 : decode cX11_findEdges 10 = .ok (.iload_n 1, 1) := by decide +kernel
theorem dX11_findEdges_11 : decode cX11_findEdges 11 = .ok (.sipush 144, 3) := by decide +kernel
theorem dX11_findEdges_14 : decode cX11_findEdges 14 = .ok (.if_icmp .ge 30, 3) := by decide +kernel
theorem dX11_findEdges_17 : decode cX11_findEdges 17 = .ok (.aload_n 0, 1) := by decide +kernel
theorem dX11_findEdges_18 : decode cX11_findEdges 18 = .ok (.getfield 31, 3) := by decide +kernel
theorem dX11_findEdges_21 : decode cX11_findEdges 21 = .ok (.iload_n 1, 1) := by decide +kernel
theorem dX11_findEdges_22 : decode cX11_findEdges 22 = .ok (.iconst 0, 1) := by decide +kernel
theorem dX11_findEdges_23 : decode cX11_findEdges 23 = .ok (.iastore, 1) := by decide +kernel
theorem dX11_findEdges_24 : decode cX11_findEdges 24 = .ok (.aload_n 0, 1) := by decide +kernel
theorem dX11_findEdges_25 : decode cX11_findEdges 25 = .ok (.getfield 34, 3) := by decide +kernel
theorem dX11_findEdges_28 : decode cX11_findEdges 28 = .ok (.iload_n 1, 1) := by decide +kernel
theorem dX11_findEdges_29 : decode cX11_findEdges 29 = .ok (.iconst 0, 1) := by decide +kernel
theorem dX11_findEdges_30 : decode cX11_findEdges 30 = .ok (.iastore, 1) := by decide +kernel
theorem dX11_findEdges_31 : decode cX11_findEdges 31 = .ok (.aload_n 0, 1) := by decide +kernel
theorem dX11_findEdges_32 : decode cX11_findEdges 32 = .ok (.getfield 40, 3) := by decide +kernel
theorem dX11_findEdges_35 : decode cX11_findEdges 35 = .ok (.iload_n 1, 1) := by decide +kernel
theorem dX11_findEdges_36 : decode cX11_findEdges 36 = .ok (.iconst 0, 1) := by decide +kernel
theorem dX11_findEdges_37 : decode cX11_findEdges 37 = .ok (.bastore, 1) := by decide +kernel
theorem dX11_findEdges_38 : decode cX11_findEdges 38 = .ok (.iinc 1 1, 3) := by decide +kernel
theorem dX11_findEdges_41 : decode cX11_findEdges 41 = .ok (.goto (-31), 3) := by decide +kernel
theorem dX11_findEdges_44 : decode cX11_findEdges 44 = .ok (.iconst 0, 1) := by decide +kernel
theorem dX11_findEdges_45 : decode cX11_findEdges 45 = .ok (.istore_n 1, 1) := by decide +kernel
theorem dX11_findEdges_46 : decode cX11_findEdges 46 = .ok (.iload_n 1, 1) := by decide +kernel
theorem dX11_findEdges_47 : decode cX11_findEdges 47 = .ok (.aload_n 0, 1) := by decide +kernel
theorem dX11_findEdges_48 : decode cX11_findEdges 48 = .ok (.invokevirtual 97, 3) := by decide +kernel
theorem dX11_findEdges_51 : decode cX11_findEdges 51 = .ok (.if_icmp .ge 75, 3) := by decide +kernel
theorem dX11_findEdges_54 : decode cX11_findEdges 54 = .ok (.aload_n 0, 1) := by decide +kernel
theorem dX11_findEdges_55 : decode cX11_findEdges 55 = .ok (.iload_n 1, 1) := by decide +kernel
theorem dX11_findEdges_56 : decode cX11_findEdges 56 = .ok (.invokevirtual 141, 3) := by decide +kernel
theorem dX11_findEdges_59 : decode cX11_findEdges 59 = .ok (.ifCond .ne 6, 3) := by decide +kernel
theorem dX11_findEdges_62 : decode cX11_findEdges 62 = .ok (.goto 58, 3) := by decide +kernel
theorem dX11_findEdges_65 : decode cX11_findEdges 65 = .ok (.aload_n 0, 1) := by decide +kernel
theorem dX11_findEdges_66 : decode cX11_findEdges 66 = .ok (.iload_n 1, 1) := by decide +kernel
theorem dX11_findEdges_67 : decode cX11_findEdges 67 = .ok (.invokevirtual 144, 3) := by decide +kernel
theorem dX11_findEdges_70 : decode cX11_findEdges 70 = .ok (.istore_n 2, 1) := by decide +kernel
theorem dX11_findEdges_71 : decode cX11_findEdges 71 = .ok (.aload_n 0, 1) := by decide +kernel
theorem dX11_findEdges_72 : decode cX11_findEdges 72 = .ok (.getfield 31, 3) := by decide +kernel
theorem dX11_findEdges_75 : decode cX11_findEdges 75 = .ok (.iload_n 2, 1) := by decide +kernel
theorem dX11_findEdges_76 : decode cX11_findEdges 76 = .ok (.aload_n 0, 1) := by decide +kernel
theorem dX11_findEdges_77 : decode cX11_findEdges 77 = .ok (.getfield 31, 3) := by decide +kernel
theorem dX11_findEdges_80 : decode cX11_findEdges 80 = .ok (.iload_n 2, 1) := by decide +kernel
theorem dX11_findEdges_81 : decode cX11_findEdges 81 = .ok (.iaload, 1) := by decide +kernel
theorem dX11_findEdges_82 : decode cX11_findEdges 82 = .ok (.iconst 1, 1) := by decide +kernel
theorem dX11_findEdges_83 : decode cX11_findEdges 83 = .ok (.iadd, 1) := by decide +kernel
theorem dX11_findEdges_84 : decode cX11_findEdges 84 = .ok (.iastore, 1) := by decide +kernel
theorem dX11_findEdges_85 : decode cX11_findEdges 85 = .ok (.aload_n 0, 1) := by decide +kernel
theorem dX11_findEdges_86 : decode cX11_findEdges 86 = .ok (.getfield 34, 3) := by decide +kernel
theorem dX11_findEdges_89 : decode cX11_findEdges 89 = .ok (.iload_n 2, 1) := by decide +kernel
theorem dX11_findEdges_90 : decode cX11_findEdges 90 = .ok (.aload_n 0, 1) := by decide +kernel
theorem dX11_findEdges_91 : decode cX11_findEdges 91 = .ok (.getfield 34, 3) := by decide +kernel
theorem dX11_findEdges_94 : decode cX11_findEdges 94 = .ok (.iload_n 2, 1) := by decide +kernel
theorem dX11_findEdges_95 : decode cX11_findEdges 95 = .ok (.iaload, 1) := by decide +kernel
theorem dX11_findEdges_96 : decode cX11_findEdges 96 = .ok (.aload_n 0, 1) := by decide +kernel
theorem dX11_findEdges_97 : decode cX11_findEdges 97 = .ok (.iload_n 1, 1) := by decide +kernel
theorem dX11_findEdges_98 : decode cX11_findEdges 98 = .ok (.invokevirtual 147, 3) := by decide +kernel
theorem dX11_findEdges_101 : decode cX11_findEdges 101 = .ok (.ifCond .eq 11, 3) := by decide +kernel
theorem dX11_findEdges_104 : decode cX11_findEdges 104 = .ok (.aload_n 0, 1) := by decide +kernel
theorem dX11_findEdges_105 : decode cX11_findEdges 105 = .ok (.iload_n 1, 1) := by decide +kernel
theorem dX11_findEdges_106 : decode cX11_findEdges 106 = .ok (.invokevirtual 167, 3) := by decide +kernel
theorem dX11_findEdges_109 : decode cX11_findEdges 109 = .ok (.goto 9, 3) := by decide +kernel
theorem dX11_findEdges_112 : decode cX11_findEdges 112 = .ok (.aload_n 0, 1) := by decide +kernel
theorem dX11_findEdges_113 : decode cX11_findEdges 113 = .ok (.iload_n 1, 1) := by decide +kernel
theorem dX11_findEdges_114 : decode cX11_findEdges 114 = .ok (.invokevirtual 167, 3) := by decide +kernel
theorem dX11_findEdges_117 : decode cX11_findEdges 117 = .ok (.ineg, 1) := by decide +kernel
theorem dX11_findEdges_118 : decode cX11_findEdges 118 = .ok (.iadd, 1) := by decide +kernel
theorem dX11_findEdges_119 : decode cX11_findEdges 119 = .ok (.iastore, 1) := by decide +kernel
theorem dX11_findEdges_120 : decode cX11_findEdges 120 = .ok (.iinc 1 1, 3) := by decide +kernel
theorem dX11_findEdges_123 : decode cX11_findEdges 123 = .ok (.goto (-77), 3) := by decide +kernel
theorem dX11_findEdges_126 : decode cX11_findEdges 126 = .ok (.iconst 0, 1) := by decide +kernel
theorem dX11_findEdges_127 : decode cX11_findEdges 127 = .ok (.istore_n 1, 1) := by decide +kernel
theorem dX11_findEdges_128 : decode cX11_findEdges 128 = .ok (.iload_n 1, 1) := by decide +kernel
theorem dX11_findEdges_129 : decode cX11_findEdges 129 = .ok (.aload_n 0, 1) := by decide +kernel
theorem dX11_findEdges_130 : decode cX11_findEdges 130 = .ok (.invokevirtual 85, 3) := by decide +kernel
theorem dX11_findEdges_133 : decode cX11_findEdges 133 = .ok (.if_icmp .ge 88, 3) := by decide +kernel
theorem dX11_findEdges_136 : decode cX11_findEdges 136 = .ok (.iload_n 1, 1) := by decide +kernel
theorem dX11_findEdges_137 : decode cX11_findEdges 137 = .ok (.iconst 1, 1) := by decide +kernel
theorem dX11_findEdges_138 : decode cX11_findEdges 138 = .ok (.iadd, 1) := by decide +kernel
theorem dX11_findEdges_139 : decode cX11_findEdges 139 = .ok (.istore_n 2, 1) := by decide +kernel
theorem dX11_findEdges_140 : decode cX11_findEdges 140 = .ok (.iload_n 2, 1) := by decide +kernel
theorem dX11_findEdges_141 : decode cX11_findEdges 141 = .ok (.aload_n 0, 1) := by decide +kernel
theorem dX11_findEdges_142 : decode cX11_findEdges 142 = .ok (.invokevirtual 85, 3) := by decide +kernel
theorem dX11_findEdges_145 : decode cX11_findEdges 145 = .ok (.if_icmp .ge 70, 3) := by decide +kernel
theorem dX11_findEdges_148 : decode cX11_findEdges 148 = .ok (.iload_n 1, 1) := by decide +kernel
theorem dX11_findEdges_149 : decode cX11_findEdges 149 = .ok (.iload_n 2, 1) := by decide +kernel
theorem dX11_findEdges_150 : decode cX11_findEdges 150 = .ok (.invokestatic 133, 3) := by decide +kernel
theorem dX11_findEdges_153 : decode cX11_findEdges 153 = .ok (.istore_n 3, 1) := by decide +kernel
theorem dX11_findEdges_154 : decode cX11_findEdges 154 = .ok (.aload_n 0, 1) := by decide +kernel
theorem dX11_findEdges_155 : decode cX11_findEdges 155 = .ok (.getfield 31, 3) := by decide +kernel
theorem dX11_findEdges_158 : decode cX11_findEdges 158 = .ok (.iload_n 3, 1) := by decide +kernel
theorem dX11_findEdges_159 : decode cX11_findEdges 159 = .ok (.iaload, 1) := by decide +kernel
theorem dX11_findEdges_160 : decode cX11_findEdges 160 = .ok (.ifCond .ne 6, 3) := by decide +kernel
theorem dX11_findEdges_163 : decode cX11_findEdges 163 = .ok (.goto 46, 3) := by decide +kernel
theorem dX11_findEdges_166 : decode cX11_findEdges 166 = .ok (.aload_n 0, 1) := by decide +kernel
theorem dX11_findEdges_167 : decode cX11_findEdges 167 = .ok (.getfield 34, 3) := by decide +kernel
theorem dX11_findEdges_170 : decode cX11_findEdges 170 = .ok (.iload_n 3, 1) := by decide +kernel
theorem dX11_findEdges_171 : decode cX11_findEdges 171 = .ok (.aload_n 0, 1) := by decide +kernel
theorem dX11_findEdges_172 : decode cX11_findEdges 172 = .ok (.getfield 34, 3) := by decide +kernel
theorem dX11_findEdges_175 : decode cX11_findEdges 175 = .ok (.iload_n 3, 1) := by decide +kernel
theorem dX11_findEdges_176 : decode cX11_findEdges 176 = .ok (.iaload, 1) := by decide +kernel
theorem dX11_findEdges_177 : decode cX11_findEdges 177 = .ok (.aload_n 0, 1) := by decide +kernel
theorem dX11_findEdges_178 : decode cX11_findEdges 178 = .ok (.getfield 31, 3) := by decide +kernel
theorem dX11_findEdges_181 : decode cX11_findEdges 181 = .ok (.iload_n 3, 1) := by decide +kernel
theorem dX11_findEdges_182 : decode cX11_findEdges 182 = .ok (.iaload, 1) := by decide +kernel
theorem dX11_findEdges_183 : decode cX11_findEdges 183 = .ok (.invokestatic 170, 3) := by decide +kernel
theorem dX11_findEdges_186 : decode cX11_findEdges 186 = .ok (.iastore, 1) := by decide +kernel
theorem dX11_findEdges_187 : decode cX11_findEdges 187 = .ok (.aload_n 0, 1) := by decide +kernel
theorem dX11_findEdges_188 : decode cX11_findEdges 188 = .ok (.getfield 37, 3) := by decide +kernel
theorem dX11_findEdges_191 : decode cX11_findEdges 191 = .ok (.iload_n 3, 1) := by decide +kernel
theorem dX11_findEdges_192 : decode cX11_findEdges 192 = .ok (.aload_n 0, 1) := by decide +kernel
theorem dX11_findEdges_193 : decode cX11_findEdges 193 = .ok (.getfield 31, 3) := by decide +kernel
theorem dX11_findEdges_196 : decode cX11_findEdges 196 = .ok (.iload_n 3, 1) := by decide +kernel
theorem dX11_findEdges_197 : decode cX11_findEdges 197 = .ok (.iaload, 1) := by decide +kernel
theorem dX11_findEdges_198 : decode cX11_findEdges 198 = .ok (.ldc 172, 2) := by decide +kernel
theorem dX11_findEdges_200 : decode cX11_findEdges 200 = .ok (.aload_n 0, 1) := by decide +kernel
theorem dX11_findEdges_201 : decode cX11_findEdges 201 = .ok (.iload_n 1, 1) := by decide +kernel
theorem dX11_findEdges_202 : decode cX11_findEdges 202 = .ok (.iload_n 2, 1) := by decide +kernel
theorem dX11_findEdges_203 : decode cX11_findEdges 203 = .ok (.invokevirtual 113, 3) := by decide +kernel
theorem dX11_findEdges_206 : decode cX11_findEdges 206 = .ok (.idiv, 1) := by decide +kernel
theorem dX11_findEdges_207 : decode cX11_findEdges 207 = .ok (.imul, 1) := by decide +kernel
theorem dX11_findEdges_208 : decode cX11_findEdges 208 = .ok (.iastore, 1) := by decide +kernel
theorem dX11_findEdges_209 : decode cX11_findEdges 209 = .ok (.iinc 2 1, 3) := by decide +kernel
theorem dX11_findEdges_212 : decode cX11_findEdges 212 = .ok (.goto (-72), 3) := by decide +kernel
theorem dX11_findEdges_215 : decode cX11_findEdges 215 = .ok (.iinc 1 1, 3) := by decide +kernel
theorem dX11_findEdges_218 : decode cX11_findEdges 218 = .ok (.goto (-90), 3) := by decide +kernel
theorem dX11_findEdges_221 : decode cX11_findEdges 221 = .ok (.return_, 1) := by decide +kernel
def rmX11_findEdges : Room := rmk 13 0 0 313
theorem nX11_findEdges : nameOk yX11_findEdges 0 = true := by decide +kernel
def bX11_findEdges_0 (J : JT) : List Value → Sem
  | [.ref x0] =>
    ob 11 x0 (cI SX11_errorNow [.ref x0] fun v1 =>
    pI 11 10 x0 v1 <|
    J 1 [.ref x0, .int 0])
  | _ => no
def bX11_findEdges_1 (J : JT) : List Value → Sem
  | [.ref x0, .int x1] =>
    br ((144 : Int32) ≤ x1)
    (J 2 [.ref x0, .int 0])
    (gR 11 11 x0 fun r1 =>
    sA r1 x1 0 <|
    gR 11 12 x0 fun r2 =>
    sA r2 x1 0 <|
    gR 11 14 x0 fun r3 =>
    sB r3 x1 0 <|
    J 1 [.ref x0, .int (x1 + 1)])
  | _ => no
def bX11_findEdges_2 (J : JT) : List Value → Sem
  | [.ref x0, .int x1] =>
    ob 11 x0 (cI SX11_sights [.ref x0] fun v1 =>
    br (v1 ≤ x1)
    (J 3 [.ref x0, .int 0])
    (ob 11 x0 (cI SX11_counts [.ref x0, .int x1] fun v2 =>
    br (v2 = 0)
    (J 2 [.ref x0, .int (x1 + 1)])
    (ob 11 x0 (cI SX11_pairOfSight [.ref x0, .int x1] fun v3 =>
    gR 11 11 x0 fun r4 =>
    gR 11 11 x0 fun r5 =>
    aI r5 v3 fun v6 =>
    sA r4 v3 (v6 + 1) <|
    gR 11 12 x0 fun r7 =>
    gR 11 12 x0 fun r8 =>
    aI r8 v3 fun v9 =>
    ob 11 x0 (cI SX11_goesUp [.ref x0, .int x1] fun v10 =>
    br (v10 = 0)
    (ob 11 x0 (cI SX11_riseOf [.ref x0, .int x1] fun v11 =>
    sA r7 v3 (v9 + (-v11)) <|
    J 2 [.ref x0, .int (x1 + 1)]))
    (ob 11 x0 (cI SX11_riseOf [.ref x0, .int x1] fun v12 =>
    sA r7 v3 (v9 + v12) <|
    J 2 [.ref x0, .int (x1 + 1)]))))))))
  | _ => no
def bX11_findEdges_3 (J : JT) : List Value → Sem
  | [.ref x0, .int x1] =>
    ob 11 x0 (cI SX11_marks [.ref x0] fun v1 =>
    br (v1 ≤ x1)
    (rV)
    (lI (x1 + 1) fun y2_2 =>
    J 4 [.ref x0, .int x1, .int y2_2]))
  | _ => no
def bX11_findEdges_4 (J : JT) : List Value → Sem
  | [.ref x0, .int x1, .int x2] =>
    ob 11 x0 (cI SX11_marks [.ref x0] fun v1 =>
    br (v1 ≤ x2)
    (J 3 [.ref x0, .int (x1 + 1)])
    (cI SX11_pairOf [.int x1, .int x2] fun v2 =>
    gR 11 11 x0 fun r3 =>
    aI r3 v2 fun v4 =>
    br (v4 = 0)
    (J 4 [.ref x0, .int x1, .int (x2 + 1)])
    (gR 11 12 x0 fun r5 =>
    gR 11 12 x0 fun r6 =>
    aI r6 v2 fun v7 =>
    gR 11 11 x0 fun r8 =>
    aI r8 v2 fun v9 =>
    cI SJ9_floorDiv_7cf53 [.int v7, .int v9] fun v10 =>
    sA r5 v2 v10 <|
    gR 11 13 x0 fun r11 =>
    gR 11 11 x0 fun r12 =>
    aI r12 v2 fun v13 =>
    ob 11 x0 (cI SX11_distance [.ref x0, .int x1, .int x2] fun v14 =>
    nz v14 <|
    sA r11 v2 (v13 * (1000000 / v14)) <|
    J 4 [.ref x0, .int x1, .int (x2 + 1)]))))
  | _ => no
def bX11_findEdges (J : JT) : JT := fun L a => match L with
  | 0 => bX11_findEdges_0 J a
  | 1 => bX11_findEdges_1 J a
  | 2 => bX11_findEdges_2 J a
  | 3 => bX11_findEdges_3 J a
  | 4 => bX11_findEdges_4 J a
  | _ => no
def SX11_findEdges : ST := mk 4 bX11_findEdges
def lX11_findEdges (L : Nat) (a : List Value) : Nat × Nat × Nat × List (Nat × Value) × List Value := match L with
  | 0 => (0, 0, 0, lv_args 0 a, [])
  | 1 => (0, 0, 10, List.zip [0, 1] a, [])
  | 2 => (0, 0, 46, List.zip [0, 1] a, [])
  | 3 => (0, 0, 128, List.zip [0, 1] a, [])
  | 4 => (0, 0, 140, List.zip [0, 1, 2] a, [])
  | _ => (0, 0, 0, [], [])
theorem pX11_findEdges_0 {Γ : CT} (hC : Ctx Γ "SpiritWallModel" cX11_findEdges 4 none rmX11_findEdges) (hnt : NT Γ) (J : JT) (hJ : ∀ L a, Cor Γ 4 (lX11_findEdges L a).1 (lX11_findEdges L a).2.1 (lX11_findEdges L a).2.2.1 (lX11_findEdges L a).2.2.2.1 (lX11_findEdges L a).2.2.2.2 (J L a)) (a : List Value) : Cor Γ 4 0 0 0 (lv_args 0 a) [] (bX11_findEdges_0 J a) := by
  unfold bX11_findEdges_0
  split
  · rename_i x0
    refine c_sub [0] rfl (loc' := [(0, .ref x0)]) ?_
    refine q_aload_n hC 0 dX11_findEdges_0 rfl rfl ?_
    refine q_aload_n hC 0 dX11_findEdges_1 rfl rfl ?_
    refine q_cVI hC hnt (stk := [.ref x0]) (as := []) sX11_errorNow (ci := 11) (by decide) rfl nX11_errorNow rfl w_920 w_922 w_923 w_830 w_921 (Nat.le_of_ble_eq_true rfl) dX11_findEdges_2 rfl (fun v1 => ?_)
    refine q_putI hC (by decide) (by decide) rfl rfl w_919 dX11_findEdges_5 ?_
    refine q_iconst hC dX11_findEdges_8 rfl ?_
    refine q_istore_nA hC (loc' := [(1, .int 0), (0, .ref x0)]) dX11_findEdges_9 rfl (Nat.le_of_ble_eq_true rfl) rfl ?_
    exact c_sub [1, 0] rfl (hJ 1 [.ref x0, .int 0])
  · exact c_no
theorem pX11_findEdges_1 {Γ : CT} (hC : Ctx Γ "SpiritWallModel" cX11_findEdges 4 none rmX11_findEdges) (hnt : NT Γ) (J : JT) (hJ : ∀ L a, Cor Γ 4 (lX11_findEdges L a).1 (lX11_findEdges L a).2.1 (lX11_findEdges L a).2.2.1 (lX11_findEdges L a).2.2.2.1 (lX11_findEdges L a).2.2.2.2 (J L a)) (a : List Value) : Cor Γ 4 0 0 10 (List.zip [0, 1] a) [] (bX11_findEdges_1 J a) := by
  unfold bX11_findEdges_1
  split
  · rename_i x0 x1
    refine c_sub [0, 1] rfl (loc' := [(0, .ref x0), (1, .int x1)]) ?_
    refine q_iload_n hC 1 dX11_findEdges_10 rfl rfl ?_
    refine q_sipush hC (v := 144) dX11_findEdges_11 rfl ?_
    refine q_ic_ge hC 44 dX11_findEdges_14 rfl ?_ ?_
    · refine q_iconst hC dX11_findEdges_44 rfl ?_
      refine q_istore_nA hC (loc' := [(1, .int 0), (0, .ref x0)]) dX11_findEdges_45 rfl (Nat.le_of_ble_eq_true rfl) rfl ?_
      exact c_sub [1, 0] rfl (hJ 2 [.ref x0, .int 0])
    · refine q_aload_n hC 0 dX11_findEdges_17 rfl rfl ?_
      refine q_getR hC (by decide) (by decide) rfl w_816 dX11_findEdges_18 (fun r1 => ?_)
      refine q_iload_n hC 1 dX11_findEdges_21 rfl rfl ?_
      refine q_iconst hC dX11_findEdges_22 rfl ?_
      refine q_iast hC dX11_findEdges_23 ?_
      refine q_aload_n hC 0 dX11_findEdges_24 rfl rfl ?_
      refine q_getR hC (by decide) (by decide) rfl w_817 dX11_findEdges_25 (fun r2 => ?_)
      refine q_iload_n hC 1 dX11_findEdges_28 rfl rfl ?_
      refine q_iconst hC dX11_findEdges_29 rfl ?_
      refine q_iast hC dX11_findEdges_30 ?_
      refine q_aload_n hC 0 dX11_findEdges_31 rfl rfl ?_
      refine q_getR hC (by decide) (by decide) rfl w_819 dX11_findEdges_32 (fun r3 => ?_)
      refine q_iload_n hC 1 dX11_findEdges_35 rfl rfl ?_
      refine q_iconst hC dX11_findEdges_36 rfl ?_
      refine q_bast hC dX11_findEdges_37 ?_
      refine q_iincA hC (loc' := [(1, .int (x1 + 1)), (0, .ref x0)]) 1 1 dX11_findEdges_38 rfl rfl (Nat.le_of_ble_eq_true rfl) rfl ?_
      refine q_goto hC 10 dX11_findEdges_41 rfl ?_
      exact c_sub [1, 0] rfl (hJ 1 [.ref x0, .int (x1 + 1)])
  · exact c_no
theorem pX11_findEdges_2 {Γ : CT} (hC : Ctx Γ "SpiritWallModel" cX11_findEdges 4 none rmX11_findEdges) (hnt : NT Γ) (J : JT) (hJ : ∀ L a, Cor Γ 4 (lX11_findEdges L a).1 (lX11_findEdges L a).2.1 (lX11_findEdges L a).2.2.1 (lX11_findEdges L a).2.2.2.1 (lX11_findEdges L a).2.2.2.2 (J L a)) (a : List Value) : Cor Γ 4 0 0 46 (List.zip [0, 1] a) [] (bX11_findEdges_2 J a) := by
  unfold bX11_findEdges_2
  split
  · rename_i x0 x1
    refine c_sub [0, 1] rfl (loc' := [(0, .ref x0), (1, .int x1)]) ?_
    refine q_iload_n hC 1 dX11_findEdges_46 rfl rfl ?_
    refine q_aload_n hC 0 dX11_findEdges_47 rfl rfl ?_
    refine q_cVI hC hnt (stk := [.int x1]) (as := []) sX11_sights (ci := 11) (by decide) rfl nX11_sights rfl w_854 w_856 w_857 w_830 w_855 (Nat.le_of_ble_eq_true rfl) dX11_findEdges_48 rfl (fun v1 => ?_)
    refine q_ic_ge hC 126 dX11_findEdges_51 rfl ?_ ?_
    · refine q_iconst hC dX11_findEdges_126 rfl ?_
      refine q_istore_nA hC (loc' := [(1, .int 0), (0, .ref x0)]) dX11_findEdges_127 rfl (Nat.le_of_ble_eq_true rfl) rfl ?_
      exact c_sub [1, 0] rfl (hJ 3 [.ref x0, .int 0])
    · refine q_aload_n hC 0 dX11_findEdges_54 rfl rfl ?_
      refine q_iload_n hC 1 dX11_findEdges_55 rfl rfl ?_
      refine q_cVI hC hnt (stk := []) (as := [.int x1]) sX11_counts (ci := 11) (by decide) rfl nX11_counts rfl w_895 w_897 w_898 w_830 w_896 (Nat.le_of_ble_eq_true rfl) dX11_findEdges_56 rfl (fun v2 => ?_)
      refine q_if_ne hC 65 dX11_findEdges_59 rfl ?_ ?_
      · refine q_aload_n hC 0 dX11_findEdges_65 rfl rfl ?_
        refine q_iload_n hC 1 dX11_findEdges_66 rfl rfl ?_
        refine q_cVI hC hnt (stk := []) (as := [.int x1]) sX11_pairOfSight (ci := 11) (by decide) rfl nX11_pairOfSight rfl w_899 w_901 w_902 w_830 w_900 (Nat.le_of_ble_eq_true rfl) dX11_findEdges_67 rfl (fun v3 => ?_)
        refine q_istore_nA hC (loc' := [(2, .int v3), (0, .ref x0), (1, .int x1)]) dX11_findEdges_70 rfl (Nat.le_of_ble_eq_true rfl) rfl ?_
        refine q_aload_n hC 1 dX11_findEdges_71 rfl rfl ?_
        refine q_getR hC (by decide) (by decide) rfl w_816 dX11_findEdges_72 (fun r4 => ?_)
        refine q_iload_n hC 0 dX11_findEdges_75 rfl rfl ?_
        refine q_aload_n hC 1 dX11_findEdges_76 rfl rfl ?_
        refine q_getR hC (by decide) (by decide) rfl w_816 dX11_findEdges_77 (fun r5 => ?_)
        refine q_iload_n hC 0 dX11_findEdges_80 rfl rfl ?_
        refine q_iald hC dX11_findEdges_81 (fun v6 => ?_)
        refine q_iconst hC dX11_findEdges_82 rfl ?_
        refine q_iadd hC dX11_findEdges_83 ?_
        refine q_iast hC dX11_findEdges_84 ?_
        refine q_aload_n hC 1 dX11_findEdges_85 rfl rfl ?_
        refine q_getR hC (by decide) (by decide) rfl w_817 dX11_findEdges_86 (fun r7 => ?_)
        refine q_iload_n hC 0 dX11_findEdges_89 rfl rfl ?_
        refine q_aload_n hC 1 dX11_findEdges_90 rfl rfl ?_
        refine q_getR hC (by decide) (by decide) rfl w_817 dX11_findEdges_91 (fun r8 => ?_)
        refine q_iload_n hC 0 dX11_findEdges_94 rfl rfl ?_
        refine q_iald hC dX11_findEdges_95 (fun v9 => ?_)
        refine q_aload_n hC 1 dX11_findEdges_96 rfl rfl ?_
        refine q_iload_n hC 2 dX11_findEdges_97 rfl rfl ?_
        refine q_cVI hC hnt (stk := [.int v9, .int v3, .ref r7]) (as := [.int x1]) sX11_goesUp (ci := 11) (by decide) rfl nX11_goesUp rfl w_903 w_905 w_906 w_830 w_904 (Nat.le_of_ble_eq_true rfl) dX11_findEdges_98 rfl (fun v10 => ?_)
        refine q_if_eq hC 112 dX11_findEdges_101 rfl ?_ ?_
        · refine q_aload_n hC 1 dX11_findEdges_112 rfl rfl ?_
          refine q_iload_n hC 2 dX11_findEdges_113 rfl rfl ?_
          refine q_cVI hC hnt (stk := [.int v9, .int v3, .ref r7]) (as := [.int x1]) sX11_riseOf (ci := 11) (by decide) rfl nX11_riseOf rfl w_924 w_926 w_927 w_830 w_925 (Nat.le_of_ble_eq_true rfl) dX11_findEdges_114 rfl (fun v11 => ?_)
          refine q_ineg hC dX11_findEdges_117 ?_
          refine q_iadd hC dX11_findEdges_118 ?_
          refine q_iast hC dX11_findEdges_119 ?_
          refine q_iincA hC (loc' := [(1, .int (x1 + 1)), (2, .int v3), (0, .ref x0)]) 2 1 dX11_findEdges_120 rfl rfl (Nat.le_of_ble_eq_true rfl) rfl ?_
          refine q_goto hC 46 dX11_findEdges_123 rfl ?_
          exact c_sub [2, 0] rfl (hJ 2 [.ref x0, .int (x1 + 1)])
        · refine q_aload_n hC 1 dX11_findEdges_104 rfl rfl ?_
          refine q_iload_n hC 2 dX11_findEdges_105 rfl rfl ?_
          refine q_cVI hC hnt (stk := [.int v9, .int v3, .ref r7]) (as := [.int x1]) sX11_riseOf (ci := 11) (by decide) rfl nX11_riseOf rfl w_924 w_926 w_927 w_830 w_925 (Nat.le_of_ble_eq_true rfl) dX11_findEdges_106 rfl (fun v12 => ?_)
          refine q_goto hC 118 dX11_findEdges_109 rfl ?_
          refine q_iadd hC dX11_findEdges_118 ?_
          refine q_iast hC dX11_findEdges_119 ?_
          refine q_iincA hC (loc' := [(1, .int (x1 + 1)), (2, .int v3), (0, .ref x0)]) 2 1 dX11_findEdges_120 rfl rfl (Nat.le_of_ble_eq_true rfl) rfl ?_
          refine q_goto hC 46 dX11_findEdges_123 rfl ?_
          exact c_sub [2, 0] rfl (hJ 2 [.ref x0, .int (x1 + 1)])
      · refine q_goto hC 120 dX11_findEdges_62 rfl ?_
        refine q_iincA hC (loc' := [(1, .int (x1 + 1)), (0, .ref x0)]) 1 1 dX11_findEdges_120 rfl rfl (Nat.le_of_ble_eq_true rfl) rfl ?_
        refine q_goto hC 46 dX11_findEdges_123 rfl ?_
        exact c_sub [1, 0] rfl (hJ 2 [.ref x0, .int (x1 + 1)])
  · exact c_no
theorem pX11_findEdges_3 {Γ : CT} (hC : Ctx Γ "SpiritWallModel" cX11_findEdges 4 none rmX11_findEdges) (hnt : NT Γ) (J : JT) (hJ : ∀ L a, Cor Γ 4 (lX11_findEdges L a).1 (lX11_findEdges L a).2.1 (lX11_findEdges L a).2.2.1 (lX11_findEdges L a).2.2.2.1 (lX11_findEdges L a).2.2.2.2 (J L a)) (a : List Value) : Cor Γ 4 0 0 128 (List.zip [0, 1] a) [] (bX11_findEdges_3 J a) := by
  unfold bX11_findEdges_3
  split
  · rename_i x0 x1
    refine c_sub [0, 1] rfl (loc' := [(0, .ref x0), (1, .int x1)]) ?_
    refine q_iload_n hC 1 dX11_findEdges_128 rfl rfl ?_
    refine q_aload_n hC 0 dX11_findEdges_129 rfl rfl ?_
    refine q_cVI hC hnt (stk := [.int x1]) (as := []) sX11_marks (ci := 11) (by decide) rfl nX11_marks rfl w_843 w_845 w_846 w_830 w_844 (Nat.le_of_ble_eq_true rfl) dX11_findEdges_130 rfl (fun v1 => ?_)
    refine q_ic_ge hC 221 dX11_findEdges_133 rfl ?_ ?_
    · exact q_vret hC dX11_findEdges_221 (Nat.le_of_ble_eq_true rfl) (Nat.le_of_ble_eq_true rfl)
    · refine q_iload_n hC 1 dX11_findEdges_136 rfl rfl ?_
      refine q_iconst hC dX11_findEdges_137 rfl ?_
      refine q_iadd hC dX11_findEdges_138 ?_
      refine q_istore_n hC (fun y2_2 => [(2, .int y2_2), (0, .ref x0), (1, .int x1)]) dX11_findEdges_139 rfl (Nat.le_of_ble_eq_true rfl) (fun _ => rfl) (fun y2_2 => ?_)
      exact c_sub [1, 2, 0] rfl (hJ 4 [.ref x0, .int x1, .int y2_2])
  · exact c_no
theorem pX11_findEdges_4 {Γ : CT} (hC : Ctx Γ "SpiritWallModel" cX11_findEdges 4 none rmX11_findEdges) (hnt : NT Γ) (J : JT) (hJ : ∀ L a, Cor Γ 4 (lX11_findEdges L a).1 (lX11_findEdges L a).2.1 (lX11_findEdges L a).2.2.1 (lX11_findEdges L a).2.2.2.1 (lX11_findEdges L a).2.2.2.2 (J L a)) (a : List Value) : Cor Γ 4 0 0 140 (List.zip [0, 1, 2] a) [] (bX11_findEdges_4 J a) := by
  unfold bX11_findEdges_4
  split
  · rename_i x0 x1 x2
    refine c_sub [0, 1, 2] rfl (loc' := [(0, .ref x0), (1, .int x1), (2, .int x2)]) ?_
    refine q_iload_n hC 2 dX11_findEdges_140 rfl rfl ?_
    refine q_aload_n hC 0 dX11_findEdges_141 rfl rfl ?_
    refine q_cVI hC hnt (stk := [.int x2]) (as := []) sX11_marks (ci := 11) (by decide) rfl nX11_marks rfl w_843 w_845 w_846 w_830 w_844 (Nat.le_of_ble_eq_true rfl) dX11_findEdges_142 rfl (fun v1 => ?_)
    refine q_ic_ge hC 215 dX11_findEdges_145 rfl ?_ ?_
    · refine q_iincA hC (loc' := [(1, .int (x1 + 1)), (0, .ref x0), (2, .int x2)]) 1 1 dX11_findEdges_215 rfl rfl (Nat.le_of_ble_eq_true rfl) rfl ?_
      refine q_goto hC 128 dX11_findEdges_218 rfl ?_
      exact c_sub [1, 0] rfl (hJ 3 [.ref x0, .int (x1 + 1)])
    · refine q_iload_n hC 1 dX11_findEdges_148 rfl rfl ?_
      refine q_iload_n hC 2 dX11_findEdges_149 rfl rfl ?_
      refine q_cSI hC hnt (stk := []) (as := [.int x1, .int x2]) sX11_pairOf nX11_pairOf rfl w_886 w_888 w_830 w_887 (Nat.le_of_ble_eq_true rfl) dX11_findEdges_150 rfl (fun v2 => ?_)
      refine q_istore_nA hC (loc' := [(3, .int v2), (0, .ref x0), (1, .int x1), (2, .int x2)]) dX11_findEdges_153 rfl (Nat.le_of_ble_eq_true rfl) rfl ?_
      refine q_aload_n hC 1 dX11_findEdges_154 rfl rfl ?_
      refine q_getR hC (by decide) (by decide) rfl w_816 dX11_findEdges_155 (fun r3 => ?_)
      refine q_iload_n hC 0 dX11_findEdges_158 rfl rfl ?_
      refine q_iald hC dX11_findEdges_159 (fun v4 => ?_)
      refine q_if_ne hC 166 dX11_findEdges_160 rfl ?_ ?_
      · refine q_aload_n hC 1 dX11_findEdges_166 rfl rfl ?_
        refine q_getR hC (by decide) (by decide) rfl w_817 dX11_findEdges_167 (fun r5 => ?_)
        refine q_iload_n hC 0 dX11_findEdges_170 rfl rfl ?_
        refine q_aload_n hC 1 dX11_findEdges_171 rfl rfl ?_
        refine q_getR hC (by decide) (by decide) rfl w_817 dX11_findEdges_172 (fun r6 => ?_)
        refine q_iload_n hC 0 dX11_findEdges_175 rfl rfl ?_
        refine q_iald hC dX11_findEdges_176 (fun v7 => ?_)
        refine q_aload_n hC 1 dX11_findEdges_177 rfl rfl ?_
        refine q_getR hC (by decide) (by decide) rfl w_816 dX11_findEdges_178 (fun r8 => ?_)
        refine q_iload_n hC 0 dX11_findEdges_181 rfl rfl ?_
        refine q_iald hC dX11_findEdges_182 (fun v9 => ?_)
        refine q_cSI hC hnt (stk := [.int v2, .ref r5]) (as := [.int v7, .int v9]) sJ9_floorDiv_7cf53 nJ9_floorDiv_7cf53 rfl w_928 w_930 w_351 w_929 (Nat.le_of_ble_eq_true rfl) dX11_findEdges_183 rfl (fun v10 => ?_)
        refine q_iast hC dX11_findEdges_186 ?_
        refine q_aload_n hC 1 dX11_findEdges_187 rfl rfl ?_
        refine q_getR hC (by decide) (by decide) rfl w_818 dX11_findEdges_188 (fun r11 => ?_)
        refine q_iload_n hC 0 dX11_findEdges_191 rfl rfl ?_
        refine q_aload_n hC 1 dX11_findEdges_192 rfl rfl ?_
        refine q_getR hC (by decide) (by decide) rfl w_816 dX11_findEdges_193 (fun r12 => ?_)
        refine q_iload_n hC 0 dX11_findEdges_196 rfl rfl ?_
        refine q_iald hC dX11_findEdges_197 (fun v13 => ?_)
        refine q_ldc hC w_931 dX11_findEdges_198 ?_
        refine q_aload_n hC 1 dX11_findEdges_200 rfl rfl ?_
        refine q_iload_n hC 2 dX11_findEdges_201 rfl rfl ?_
        refine q_iload_n hC 3 dX11_findEdges_202 rfl rfl ?_
        refine q_cVI hC hnt (stk := [.int 1000000, .int v13, .int v2, .ref r11]) (as := [.int x1, .int x2]) sX11_distance (ci := 11) (by decide) rfl nX11_distance rfl w_867 w_869 w_870 w_830 w_868 (Nat.le_of_ble_eq_true rfl) dX11_findEdges_203 rfl (fun v14 => ?_)
        refine q_idiv hC dX11_findEdges_206 ?_
        refine q_imul hC dX11_findEdges_207 ?_
        refine q_iast hC dX11_findEdges_208 ?_
        refine q_iincA hC (loc' := [(2, .int (x2 + 1)), (3, .int v2), (0, .ref x0), (1, .int x1)]) 3 1 dX11_findEdges_209 rfl rfl (Nat.le_of_ble_eq_true rfl) rfl ?_
        refine q_goto hC 140 dX11_findEdges_212 rfl ?_
        exact c_sub [2, 3, 0] rfl (hJ 4 [.ref x0, .int x1, .int (x2 + 1)])
      · refine q_goto hC 209 dX11_findEdges_163 rfl ?_
        refine q_iincA hC (loc' := [(2, .int (x2 + 1)), (3, .int v2), (0, .ref x0), (1, .int x1)]) 3 1 dX11_findEdges_209 rfl rfl (Nat.le_of_ble_eq_true rfl) rfl ?_
        refine q_goto hC 140 dX11_findEdges_212 rfl ?_
        exact c_sub [2, 3, 0] rfl (hJ 4 [.ref x0, .int x1, .int (x2 + 1)])
  · exact c_no
theorem sX11_findEdges : Snd yX11_findEdges (.code yX11_findEdges cX11_findEdges 4 none) rmX11_findEdges SX11_findEdges := by
  refine Snd.of lX11_findEdges (by decide +kernel) (fun _ => rfl) ?_
  intro Γ hC hnt hnm J hJ L a
  match L with
  | 0 => exact pX11_findEdges_0 hC hnt J hJ a
  | 1 => exact pX11_findEdges_1 hC hnt J hJ a
  | 2 => exact pX11_findEdges_2 hC hnt J hJ a
  | 3 => exact pX11_findEdges_3 hC hnt J hJ a
  | 4 => exact pX11_findEdges_4 hC hnt J hJ a
  | L + 5 => exact c_no
/-! SpiritWallModel.nextEdge()I -/
theorem dX11_nextEdge_0 : decode cX11_nextEdge 0 = .ok (.iconst (-1), 1) := by decide +kernel
theorem dX11_nextEdge_1 : decode cX11_nextEdge 1 = .ok (.istore_n 1, 1) := by decide +kernel
theorem dX11_nextEdge_2 : decode cX11_nextEdge 2 = .ok (.iconst 0, 1) := by decide +kernel
theorem dX11_nextEdge_3 : decode cX11_nextEdge 3 = .ok (.istore_n 2, 1) := by decide +kernel
theorem dX11_nextEdge_4 : decode cX11_nextEdge 4 = .ok (.iload_n 2, 1) := by decide +kernel
theorem dX11_nextEdge_5 : decode cX11_nextEdge 5 = .ok (.aload_n 0, 1) := by decide +kernel
theorem dX11_nextEdge_6 : decode cX11_nextEdge 6 = .ok (.invokevirtual 85, 3) := by decide +kernel
theorem dX11_nextEdge_9 : decode cX11_nextEdge 9 = .ok (.if_icmp .ge 86, 3) := by decide +kernel
theorem dX11_nextEdge_12 : decode cX11_nextEdge 12 = .ok (.iload_n 2, 1) := by decide +kernel
theorem dX11_nextEdge_13 : decode cX11_nextEdge 13 = .ok (.iconst 1, 1) := by decide +kernel
theorem dX11_nextEdge_14 : decode cX11_nextEdge 14 = .ok (.iadd, 1) := by decide +kernel
theorem dX11_nextEdge_15 : decode cX11_nextEdge 15 = .ok (.istore_n 3, 1) := by decide +kernel
theorem dX11_nextEdge_16 : decode cX11_nextEdge 16 = .ok (.iload_n 3, 1) := by decide +kernel
theorem dX11_nextEdge_17 : decode cX11_nextEdge 17 = .ok (.aload_n 0, 1) := by decide +kernel
theorem dX11_nextEdge_18 : decode cX11_nextEdge 18 = .ok (.invokevirtual 85, 3) := by decide +kernel
theorem dX11_nextEdge_21 : decode cX11_nextEdge 21 = .ok (.if_icmp .ge 68, 3) := by decide +kernel
theorem dX11_nextEdge_24 : decode cX11_nextEdge 24 = .ok (.aload_n 0, 1) := by decide +kernel
theorem dX11_nextEdge_25 : decode cX11_nextEdge 25 = .ok (.iload_n 2, 1) := by decide +kernel
theorem dX11_nextEdge_26 : decode cX11_nextEdge 26 = .ok (.iload_n 3, 1) := by decide +kernel
theorem dX11_nextEdge_27 : decode cX11_nextEdge 27 = .ok (.invokevirtual 173, 3) := by decide +kernel
theorem dX11_nextEdge_30 : decode cX11_nextEdge 30 = .ok (.ifCond .eq 53, 3) := by decide +kernel
theorem dX11_nextEdge_33 : decode cX11_nextEdge 33 = .ok (.aload_n 0, 1) := by decide +kernel
theorem dX11_nextEdge_34 : decode cX11_nextEdge 34 = .ok (.getfield 44, 3) := by decide +kernel
theorem dX11_nextEdge_37 : decode cX11_nextEdge 37 = .ok (.iload_n 2, 1) := by decide +kernel
theorem dX11_nextEdge_38 : decode cX11_nextEdge 38 = .ok (.iaload, 1) := by decide +kernel
theorem dX11_nextEdge_39 : decode cX11_nextEdge 39 = .ok (.aload_n 0, 1) := by decide +kernel
theorem dX11_nextEdge_40 : decode cX11_nextEdge 40 = .ok (.getfield 44, 3) := by decide +kernel
theorem dX11_nextEdge_43 : decode cX11_nextEdge 43 = .ok (.iload_n 3, 1) := by decide +kernel
theorem dX11_nextEdge_44 : decode cX11_nextEdge 44 = .ok (.iaload, 1) := by decide +kernel
theorem dX11_nextEdge_45 : decode cX11_nextEdge 45 = .ok (.if_icmp .ne 6, 3) := by decide +kernel
theorem dX11_nextEdge_48 : decode cX11_nextEdge 48 = .ok (.goto 35, 3) := by decide +kernel
theorem dX11_nextEdge_51 : decode cX11_nextEdge 51 = .ok (.iload_n 1, 1) := by decide +kernel
theorem dX11_nextEdge_52 : decode cX11_nextEdge 52 = .ok (.iconst (-1), 1) := by decide +kernel
theorem dX11_nextEdge_53 : decode cX11_nextEdge 53 = .ok (.if_icmp .eq 24, 3) := by decide +kernel
theorem dX11_nextEdge_56 : decode cX11_nextEdge 56 = .ok (.aload_n 0, 1) := by decide +kernel
theorem dX11_nextEdge_57 : decode cX11_nextEdge 57 = .ok (.iload_n 2, 1) := by decide +kernel
theorem dX11_nextEdge_58 : decode cX11_nextEdge 58 = .ok (.iload_n 3, 1) := by decide +kernel
theorem dX11_nextEdge_59 : decode cX11_nextEdge 59 = .ok (.invokevirtual 113, 3) := by decide +kernel
theorem dX11_nextEdge_62 : decode cX11_nextEdge 62 = .ok (.aload_n 0, 1) := by decide +kernel
theorem dX11_nextEdge_63 : decode cX11_nextEdge 63 = .ok (.iload_n 1, 1) := by decide +kernel
theorem dX11_nextEdge_64 : decode cX11_nextEdge 64 = .ok (.bipush 12, 2) := by decide +kernel
theorem dX11_nextEdge_66 : decode cX11_nextEdge 66 = .ok (.idiv, 1) := by decide +kernel
theorem dX11_nextEdge_67 : decode cX11_nextEdge 67 = .ok (.iload_n 1, 1) := by decide +kernel
theorem dX11_nextEdge_68 : decode cX11_nextEdge 68 = .ok (.bipush 12, 2) := by decide +kernel
theorem dX11_nextEdge_70 : decode cX11_nextEdge 70 = .ok (.irem, 1) := by decide +kernel
theorem dX11_nextEdge_71 : decode cX11_nextEdge 71 = .ok (.invokevirtual 113, 3) := by decide +kernel
theorem dX11_nextEdge_74 : decode cX11_nextEdge 74 = .ok (.if_icmp .ge 9, 3) := by decide +kernel
theorem dX11_nextEdge_77 : decode cX11_nextEdge 77 = .ok (.iload_n 2, 1) := by decide +kernel
theorem dX11_nextEdge_78 : decode cX11_nextEdge 78 = .ok (.iload_n 3, 1) := by decide +kernel
theorem dX11_nextEdge_79 : decode cX11_nextEdge 79 = .ok (.invokestatic 133, 3) := by decide +kernel
theorem dX11_nextEdge_82 : decode cX11_nextEdge 82 = .ok (.istore_n 1, 1) := by decide +kernel
theorem dX11_nextEdge_83 : decode cX11_nextEdge 83 = .ok (.iinc 3 1, 3) := by decide +kernel
theorem dX11_nextEdge_86 : decode cX11_nextEdge 86 = .ok (.goto (-70), 3) := by decide +kernel
theorem dX11_nextEdge_89 : decode cX11_nextEdge 89 = .ok (.iinc 2 1, 3) := by decide +kernel
theorem dX11_nextEdge_92 : decode cX11_nextEdge 92 = .ok (.goto (-88), 3) := by decide +kernel
theorem dX11_nextEdge_95 : decode cX11_nextEdge 95 = .ok (.iload_n 1, 1) := by decide +kernel
theorem dX11_nextEdge_96 : decode cX11_nextEdge 96 = .ok (.ireturn, 1) := by decide +kernel
def rmX11_nextEdge : Room := rmk 8 0 0 194
theorem nX11_nextEdge : nameOk yX11_nextEdge 0 = true := by decide +kernel
def bX11_nextEdge_0 (J : JT) : List Value → Sem
  | [.ref x0] =>
    J 1 [.ref x0, .int (-1), .int 0]
  | _ => no
def bX11_nextEdge_1 (J : JT) : List Value → Sem
  | [.ref x0, .int x1, .int x2] =>
    ob 11 x0 (cI SX11_marks [.ref x0] fun v1 =>
    br (v1 ≤ x2)
    (rI x1)
    (lI (x2 + 1) fun y3_2 =>
    J 2 [.ref x0, .int x1, .int x2, .int y3_2]))
  | _ => no
def bX11_nextEdge_2 (J : JT) : List Value → Sem
  | [.ref x0, .int x1, .int x2, .int x3] =>
    ob 11 x0 (cI SX11_marks [.ref x0] fun v1 =>
    br (v1 ≤ x3)
    (J 1 [.ref x0, .int x1, .int (x2 + 1)])
    (ob 11 x0 (cI SX11_isEdge [.ref x0, .int x2, .int x3] fun v2 =>
    br (v2 = 0)
    (J 2 [.ref x0, .int x1, .int x2, .int (x3 + 1)])
    (gR 11 15 x0 fun r3 =>
    aI r3 x2 fun v4 =>
    gR 11 15 x0 fun r5 =>
    aI r5 x3 fun v6 =>
    br (v4 = v6)
    (J 2 [.ref x0, .int x1, .int x2, .int (x3 + 1)])
    (br (x1 = ((-1) : Int32))
    (cI SX11_pairOf [.int x2, .int x3] fun v7 =>
    J 2 [.ref x0, .int v7, .int x2, .int (x3 + 1)])
    (ob 11 x0 (cI SX11_distance [.ref x0, .int x2, .int x3] fun v8 =>
    nz 12 <|
    nz 12 <|
    ob 11 x0 (cI SX11_distance [.ref x0, .int (x1 / 12), .int (x1 - x1 / 12 * 12)] fun v9 =>
    br (v9 ≤ v8)
    (J 2 [.ref x0, .int x1, .int x2, .int (x3 + 1)])
    (cI SX11_pairOf [.int x2, .int x3] fun v10 =>
    J 2 [.ref x0, .int v10, .int x2, .int (x3 + 1)])))))))))
  | _ => no
def bX11_nextEdge (J : JT) : JT := fun L a => match L with
  | 0 => bX11_nextEdge_0 J a
  | 1 => bX11_nextEdge_1 J a
  | 2 => bX11_nextEdge_2 J a
  | _ => no
def SX11_nextEdge : ST := mk 4 bX11_nextEdge
def lX11_nextEdge (L : Nat) (a : List Value) : Nat × Nat × Nat × List (Nat × Value) × List Value := match L with
  | 0 => (0, 0, 0, lv_args 0 a, [])
  | 1 => (0, 0, 4, List.zip [0, 1, 2] a, [])
  | 2 => (0, 0, 16, List.zip [0, 1, 2, 3] a, [])
  | _ => (0, 0, 0, [], [])
theorem pX11_nextEdge_0 {Γ : CT} (hC : Ctx Γ "SpiritWallModel" cX11_nextEdge 4 (some .int) rmX11_nextEdge) (hnt : NT Γ) (J : JT) (hJ : ∀ L a, Cor Γ 4 (lX11_nextEdge L a).1 (lX11_nextEdge L a).2.1 (lX11_nextEdge L a).2.2.1 (lX11_nextEdge L a).2.2.2.1 (lX11_nextEdge L a).2.2.2.2 (J L a)) (a : List Value) : Cor Γ 4 0 0 0 (lv_args 0 a) [] (bX11_nextEdge_0 J a) := by
  unfold bX11_nextEdge_0
  split
  · rename_i x0
    refine c_sub [0] rfl (loc' := [(0, .ref x0)]) ?_
    refine q_iconst hC dX11_nextEdge_0 rfl ?_
    refine q_istore_nA hC (loc' := [(1, .int (-1)), (0, .ref x0)]) dX11_nextEdge_1 rfl (Nat.le_of_ble_eq_true rfl) rfl ?_
    refine q_iconst hC dX11_nextEdge_2 rfl ?_
    refine q_istore_nA hC (loc' := [(2, .int 0), (1, .int (-1)), (0, .ref x0)]) dX11_nextEdge_3 rfl (Nat.le_of_ble_eq_true rfl) rfl ?_
    exact c_sub [2, 1, 0] rfl (hJ 1 [.ref x0, .int (-1), .int 0])
  · exact c_no
theorem pX11_nextEdge_1 {Γ : CT} (hC : Ctx Γ "SpiritWallModel" cX11_nextEdge 4 (some .int) rmX11_nextEdge) (hnt : NT Γ) (J : JT) (hJ : ∀ L a, Cor Γ 4 (lX11_nextEdge L a).1 (lX11_nextEdge L a).2.1 (lX11_nextEdge L a).2.2.1 (lX11_nextEdge L a).2.2.2.1 (lX11_nextEdge L a).2.2.2.2 (J L a)) (a : List Value) : Cor Γ 4 0 0 4 (List.zip [0, 1, 2] a) [] (bX11_nextEdge_1 J a) := by
  unfold bX11_nextEdge_1
  split
  · rename_i x0 x1 x2
    refine c_sub [0, 1, 2] rfl (loc' := [(0, .ref x0), (1, .int x1), (2, .int x2)]) ?_
    refine q_iload_n hC 2 dX11_nextEdge_4 rfl rfl ?_
    refine q_aload_n hC 0 dX11_nextEdge_5 rfl rfl ?_
    refine q_cVI hC hnt (stk := [.int x2]) (as := []) sX11_marks (ci := 11) (by decide) rfl nX11_marks rfl w_843 w_845 w_846 w_830 w_844 (Nat.le_of_ble_eq_true rfl) dX11_nextEdge_6 rfl (fun v1 => ?_)
    refine q_ic_ge hC 95 dX11_nextEdge_9 rfl ?_ ?_
    · refine q_iload_n hC 1 dX11_nextEdge_95 rfl rfl ?_
      exact q_iret hC dX11_nextEdge_96 (Nat.le_of_ble_eq_true rfl) (Nat.le_of_ble_eq_true rfl)
    · refine q_iload_n hC 2 dX11_nextEdge_12 rfl rfl ?_
      refine q_iconst hC dX11_nextEdge_13 rfl ?_
      refine q_iadd hC dX11_nextEdge_14 ?_
      refine q_istore_n hC (fun y3_2 => [(3, .int y3_2), (0, .ref x0), (1, .int x1), (2, .int x2)]) dX11_nextEdge_15 rfl (Nat.le_of_ble_eq_true rfl) (fun _ => rfl) (fun y3_2 => ?_)
      exact c_sub [1, 2, 3, 0] rfl (hJ 2 [.ref x0, .int x1, .int x2, .int y3_2])
  · exact c_no
theorem pX11_nextEdge_2 {Γ : CT} (hC : Ctx Γ "SpiritWallModel" cX11_nextEdge 4 (some .int) rmX11_nextEdge) (hnt : NT Γ) (J : JT) (hJ : ∀ L a, Cor Γ 4 (lX11_nextEdge L a).1 (lX11_nextEdge L a).2.1 (lX11_nextEdge L a).2.2.1 (lX11_nextEdge L a).2.2.2.1 (lX11_nextEdge L a).2.2.2.2 (J L a)) (a : List Value) : Cor Γ 4 0 0 16 (List.zip [0, 1, 2, 3] a) [] (bX11_nextEdge_2 J a) := by
  unfold bX11_nextEdge_2
  split
  · rename_i x0 x1 x2 x3
    refine c_sub [0, 1, 2, 3] rfl (loc' := [(0, .ref x0), (1, .int x1), (2, .int x2), (3, .int x3)]) ?_
    refine q_iload_n hC 3 dX11_nextEdge_16 rfl rfl ?_
    refine q_aload_n hC 0 dX11_nextEdge_17 rfl rfl ?_
    refine q_cVI hC hnt (stk := [.int x3]) (as := []) sX11_marks (ci := 11) (by decide) rfl nX11_marks rfl w_843 w_845 w_846 w_830 w_844 (Nat.le_of_ble_eq_true rfl) dX11_nextEdge_18 rfl (fun v1 => ?_)
    refine q_ic_ge hC 89 dX11_nextEdge_21 rfl ?_ ?_
    · refine q_iincA hC (loc' := [(2, .int (x2 + 1)), (0, .ref x0), (1, .int x1), (3, .int x3)]) 2 1 dX11_nextEdge_89 rfl rfl (Nat.le_of_ble_eq_true rfl) rfl ?_
      refine q_goto hC 4 dX11_nextEdge_92 rfl ?_
      exact c_sub [1, 2, 0] rfl (hJ 1 [.ref x0, .int x1, .int (x2 + 1)])
    · refine q_aload_n hC 0 dX11_nextEdge_24 rfl rfl ?_
      refine q_iload_n hC 2 dX11_nextEdge_25 rfl rfl ?_
      refine q_iload_n hC 3 dX11_nextEdge_26 rfl rfl ?_
      refine q_cVI hC hnt (stk := []) (as := [.int x2, .int x3]) sX11_isEdge (ci := 11) (by decide) rfl nX11_isEdge rfl w_932 w_934 w_935 w_830 w_933 (Nat.le_of_ble_eq_true rfl) dX11_nextEdge_27 rfl (fun v2 => ?_)
      refine q_if_eq hC 83 dX11_nextEdge_30 rfl ?_ ?_
      · refine q_iincA hC (loc' := [(3, .int (x3 + 1)), (0, .ref x0), (1, .int x1), (2, .int x2)]) 3 1 dX11_nextEdge_83 rfl rfl (Nat.le_of_ble_eq_true rfl) rfl ?_
        refine q_goto hC 16 dX11_nextEdge_86 rfl ?_
        exact c_sub [1, 2, 3, 0] rfl (hJ 2 [.ref x0, .int x1, .int x2, .int (x3 + 1)])
      · refine q_aload_n hC 0 dX11_nextEdge_33 rfl rfl ?_
        refine q_getR hC (by decide) (by decide) rfl w_820 dX11_nextEdge_34 (fun r3 => ?_)
        refine q_iload_n hC 2 dX11_nextEdge_37 rfl rfl ?_
        refine q_iald hC dX11_nextEdge_38 (fun v4 => ?_)
        refine q_aload_n hC 0 dX11_nextEdge_39 rfl rfl ?_
        refine q_getR hC (by decide) (by decide) rfl w_820 dX11_nextEdge_40 (fun r5 => ?_)
        refine q_iload_n hC 3 dX11_nextEdge_43 rfl rfl ?_
        refine q_iald hC dX11_nextEdge_44 (fun v6 => ?_)
        refine q_ic_ne hC 51 dX11_nextEdge_45 rfl ?_ ?_
        · refine q_iload_n hC 1 dX11_nextEdge_51 rfl rfl ?_
          refine q_iconst hC dX11_nextEdge_52 rfl ?_
          refine q_ic_eq hC 77 dX11_nextEdge_53 rfl ?_ ?_
          · refine q_iload_n hC 2 dX11_nextEdge_77 rfl rfl ?_
            refine q_iload_n hC 3 dX11_nextEdge_78 rfl rfl ?_
            refine q_cSI hC hnt (stk := []) (as := [.int x2, .int x3]) sX11_pairOf nX11_pairOf rfl w_886 w_888 w_830 w_887 (Nat.le_of_ble_eq_true rfl) dX11_nextEdge_79 rfl (fun v7 => ?_)
            refine q_istore_nA hC (loc' := [(1, .int v7), (0, .ref x0), (2, .int x2), (3, .int x3)]) dX11_nextEdge_82 rfl (Nat.le_of_ble_eq_true rfl) rfl ?_
            refine q_iincA hC (loc' := [(3, .int (x3 + 1)), (1, .int v7), (0, .ref x0), (2, .int x2)]) 3 1 dX11_nextEdge_83 rfl rfl (Nat.le_of_ble_eq_true rfl) rfl ?_
            refine q_goto hC 16 dX11_nextEdge_86 rfl ?_
            exact c_sub [2, 1, 3, 0] rfl (hJ 2 [.ref x0, .int v7, .int x2, .int (x3 + 1)])
          · refine q_aload_n hC 0 dX11_nextEdge_56 rfl rfl ?_
            refine q_iload_n hC 2 dX11_nextEdge_57 rfl rfl ?_
            refine q_iload_n hC 3 dX11_nextEdge_58 rfl rfl ?_
            refine q_cVI hC hnt (stk := []) (as := [.int x2, .int x3]) sX11_distance (ci := 11) (by decide) rfl nX11_distance rfl w_867 w_869 w_870 w_830 w_868 (Nat.le_of_ble_eq_true rfl) dX11_nextEdge_59 rfl (fun v8 => ?_)
            refine q_aload_n hC 0 dX11_nextEdge_62 rfl rfl ?_
            refine q_iload_n hC 1 dX11_nextEdge_63 rfl rfl ?_
            refine q_bipush hC (v := 12) dX11_nextEdge_64 rfl ?_
            refine q_idiv hC dX11_nextEdge_66 ?_
            refine q_iload_n hC 1 dX11_nextEdge_67 rfl rfl ?_
            refine q_bipush hC (v := 12) dX11_nextEdge_68 rfl ?_
            refine q_irem hC dX11_nextEdge_70 ?_
            refine q_cVI hC hnt (stk := [.int v8]) (as := [.int (x1 / 12), .int (x1 - x1 / 12 * 12)]) sX11_distance (ci := 11) (by decide) rfl nX11_distance rfl w_867 w_869 w_870 w_830 w_868 (Nat.le_of_ble_eq_true rfl) dX11_nextEdge_71 rfl (fun v9 => ?_)
            refine q_ic_ge hC 83 dX11_nextEdge_74 rfl ?_ ?_
            · refine q_iincA hC (loc' := [(3, .int (x3 + 1)), (0, .ref x0), (1, .int x1), (2, .int x2)]) 3 1 dX11_nextEdge_83 rfl rfl (Nat.le_of_ble_eq_true rfl) rfl ?_
              refine q_goto hC 16 dX11_nextEdge_86 rfl ?_
              exact c_sub [1, 2, 3, 0] rfl (hJ 2 [.ref x0, .int x1, .int x2, .int (x3 + 1)])
            · refine q_iload_n hC 2 dX11_nextEdge_77 rfl rfl ?_
              refine q_iload_n hC 3 dX11_nextEdge_78 rfl rfl ?_
              refine q_cSI hC hnt (stk := []) (as := [.int x2, .int x3]) sX11_pairOf nX11_pairOf rfl w_886 w_888 w_830 w_887 (Nat.le_of_ble_eq_true rfl) dX11_nextEdge_79 rfl (fun v10 => ?_)
              refine q_istore_nA hC (loc' := [(1, .int v10), (0, .ref x0), (2, .int x2), (3, .int x3)]) dX11_nextEdge_82 rfl (Nat.le_of_ble_eq_true rfl) rfl ?_
              refine q_iincA hC (loc' := [(3, .int (x3 + 1)), (1, .int v10), (0, .ref x0), (2, .int x2)]) 3 1 dX11_nextEdge_83 rfl rfl (Nat.le_of_ble_eq_true rfl) rfl ?_
              refine q_goto hC 16 dX11_nextEdge_86 rfl ?_
              exact c_sub [2, 1, 3, 0] rfl (hJ 2 [.ref x0, .int v10, .int x2, .int (x3 + 1)])
        · refine q_goto hC 83 dX11_nextEdge_48 rfl ?_
          refine q_iincA hC (loc' := [(3, .int (x3 + 1)), (0, .ref x0), (1, .int x1), (2, .int x2)]) 3 1 dX11_nextEdge_83 rfl rfl (Nat.le_of_ble_eq_true rfl) rfl ?_
          refine q_goto hC 16 dX11_nextEdge_86 rfl ?_
          exact c_sub [1, 2, 3, 0] rfl (hJ 2 [.ref x0, .int x1, .int x2, .int (x3 + 1)])
  · exact c_no
theorem sX11_nextEdge : Snd yX11_nextEdge (.code yX11_nextEdge cX11_nextEdge 4 (some .int)) rmX11_nextEdge SX11_nextEdge := by
  refine Snd.of lX11_nextEdge (by decide +kernel) (fun _ => rfl) ?_
  intro Γ hC hnt hnm J hJ L a
  match L with
  | 0 => exact pX11_nextEdge_0 hC hnt J hJ a
  | 1 => exact pX11_nextEdge_1 hC hnt J hJ a
  | 2 => exact pX11_nextEdge_2 hC hnt J hJ a
  | L + 3 => exact c_no
/-! java/lang/Math.max(II)I -/
theorem dJ9_max_7cf53_0 : decode cJ9_max_7cf53 0 = .ok (.iload_n 0, 1) := by decide +kernel
theorem dJ9_max_7cf53_1 : decode cJ9_max_7cf53 1 = .ok (.iload_n 1, 1) := by decide +kernel
theorem dJ9_max_7cf53_2 : decode cJ9_max_7cf53 2 = .ok (.if_icmp .lt 7, 3) := by decide +kernel
theorem dJ9_max_7cf53_5 : decode cJ9_max_7cf53 5 = .ok (.iload_n 0, 1) := by decide +kernel
theorem dJ9_max_7cf53_6 : decode cJ9_max_7cf53 6 = .ok (.goto 4, 3) := by decide +kernel
theorem dJ9_max_7cf53_9 : decode cJ9_max_7cf53 9 = .ok (.iload_n 1, 1) := by decide +kernel
theorem dJ9_max_7cf53_10 : decode cJ9_max_7cf53 10 = .ok (.ireturn, 1) := by decide +kernel
def rmJ9_max_7cf53 : Room := rmk 6 0 0 150
theorem nJ9_max_7cf53 : nameOk yJ9_max_7cf53 2 = true := by decide +kernel
def bJ9_max_7cf53_0 (J : JT) : List Value → Sem
  | [.int x0, .int x1] =>
    br (x0 < x1)
    (rI x1)
    (rI x0)
  | _ => no
def bJ9_max_7cf53 (J : JT) : JT := fun L a => match L with
  | 0 => bJ9_max_7cf53_0 J a
  | _ => no
def SJ9_max_7cf53 : ST := mk 2 bJ9_max_7cf53
def lJ9_max_7cf53 (L : Nat) (a : List Value) : Nat × Nat × Nat × List (Nat × Value) × List Value := match L with
  | 0 => (0, 0, 0, lv_args 0 a, [])
  | _ => (0, 0, 0, [], [])
theorem pJ9_max_7cf53_0 {Γ : CT} (hC : Ctx Γ "java/lang/Math" cJ9_max_7cf53 2 (some .int) rmJ9_max_7cf53) (hnt : NT Γ) (J : JT) (hJ : ∀ L a, Cor Γ 2 (lJ9_max_7cf53 L a).1 (lJ9_max_7cf53 L a).2.1 (lJ9_max_7cf53 L a).2.2.1 (lJ9_max_7cf53 L a).2.2.2.1 (lJ9_max_7cf53 L a).2.2.2.2 (J L a)) (a : List Value) : Cor Γ 2 0 0 0 (lv_args 0 a) [] (bJ9_max_7cf53_0 J a) := by
  unfold bJ9_max_7cf53_0
  split
  · rename_i x0 x1
    refine c_sub [0, 1] rfl (loc' := [(0, .int x0), (1, .int x1)]) ?_
    refine q_iload_n hC 0 dJ9_max_7cf53_0 rfl rfl ?_
    refine q_iload_n hC 1 dJ9_max_7cf53_1 rfl rfl ?_
    refine q_ic_lt hC 9 dJ9_max_7cf53_2 rfl ?_ ?_
    · refine q_iload_n hC 1 dJ9_max_7cf53_9 rfl rfl ?_
      exact q_iret hC dJ9_max_7cf53_10 (Nat.le_of_ble_eq_true rfl) (Nat.le_of_ble_eq_true rfl)
    · refine q_iload_n hC 0 dJ9_max_7cf53_5 rfl rfl ?_
      refine q_goto hC 10 dJ9_max_7cf53_6 rfl ?_
      exact q_iret hC dJ9_max_7cf53_10 (Nat.le_of_ble_eq_true rfl) (Nat.le_of_ble_eq_true rfl)
  · exact c_no
theorem sJ9_max_7cf53 : Snd yJ9_max_7cf53 (.code yJ9_max_7cf53 cJ9_max_7cf53 2 (some .int)) rmJ9_max_7cf53 SJ9_max_7cf53 := by
  refine Snd.ofF lJ9_max_7cf53 (by decide +kernel) (fun _ => rfl) ?_
  intro Γ hC hnt hnm J hJ L a
  match L with
  | 0 => exact pJ9_max_7cf53_0 hC hnt J hJ a
  | L + 1 => exact c_no
/-! java/lang/Math.min(II)I -/
theorem dJ9_min_7cf53_0 : decode cJ9_min_7cf53 0 = .ok (.iload_n 0, 1) := by decide +kernel
theorem dJ9_min_7cf53_1 : decode cJ9_min_7cf53 1 = .ok (.iload_n 1, 1) := by decide +kernel
theorem dJ9_min_7cf53_2 : decode cJ9_min_7cf53 2 = .ok (.if_icmp .gt 7, 3) := by decide +kernel
theorem dJ9_min_7cf53_5 : decode cJ9_min_7cf53 5 = .ok (.iload_n 0, 1) := by decide +kernel
theorem dJ9_min_7cf53_6 : decode cJ9_min_7cf53 6 = .ok (.goto 4, 3) := by decide +kernel
theorem dJ9_min_7cf53_9 : decode cJ9_min_7cf53 9 = .ok (.iload_n 1, 1) := by decide +kernel
theorem dJ9_min_7cf53_10 : decode cJ9_min_7cf53 10 = .ok (.ireturn, 1) := by decide +kernel
def rmJ9_min_7cf53 : Room := rmk 6 0 0 150
theorem nJ9_min_7cf53 : nameOk yJ9_min_7cf53 2 = true := by decide +kernel
def bJ9_min_7cf53_0 (J : JT) : List Value → Sem
  | [.int x0, .int x1] =>
    br (x1 < x0)
    (rI x1)
    (rI x0)
  | _ => no
def bJ9_min_7cf53 (J : JT) : JT := fun L a => match L with
  | 0 => bJ9_min_7cf53_0 J a
  | _ => no
def SJ9_min_7cf53 : ST := mk 2 bJ9_min_7cf53
def lJ9_min_7cf53 (L : Nat) (a : List Value) : Nat × Nat × Nat × List (Nat × Value) × List Value := match L with
  | 0 => (0, 0, 0, lv_args 0 a, [])
  | _ => (0, 0, 0, [], [])
theorem pJ9_min_7cf53_0 {Γ : CT} (hC : Ctx Γ "java/lang/Math" cJ9_min_7cf53 2 (some .int) rmJ9_min_7cf53) (hnt : NT Γ) (J : JT) (hJ : ∀ L a, Cor Γ 2 (lJ9_min_7cf53 L a).1 (lJ9_min_7cf53 L a).2.1 (lJ9_min_7cf53 L a).2.2.1 (lJ9_min_7cf53 L a).2.2.2.1 (lJ9_min_7cf53 L a).2.2.2.2 (J L a)) (a : List Value) : Cor Γ 2 0 0 0 (lv_args 0 a) [] (bJ9_min_7cf53_0 J a) := by
  unfold bJ9_min_7cf53_0
  split
  · rename_i x0 x1
    refine c_sub [0, 1] rfl (loc' := [(0, .int x0), (1, .int x1)]) ?_
    refine q_iload_n hC 0 dJ9_min_7cf53_0 rfl rfl ?_
    refine q_iload_n hC 1 dJ9_min_7cf53_1 rfl rfl ?_
    refine q_ic_gt hC 9 dJ9_min_7cf53_2 rfl ?_ ?_
    · refine q_iload_n hC 1 dJ9_min_7cf53_9 rfl rfl ?_
      exact q_iret hC dJ9_min_7cf53_10 (Nat.le_of_ble_eq_true rfl) (Nat.le_of_ble_eq_true rfl)
    · refine q_iload_n hC 0 dJ9_min_7cf53_5 rfl rfl ?_
      refine q_goto hC 10 dJ9_min_7cf53_6 rfl ?_
      exact q_iret hC dJ9_min_7cf53_10 (Nat.le_of_ble_eq_true rfl) (Nat.le_of_ble_eq_true rfl)
  · exact c_no
theorem sJ9_min_7cf53 : Snd yJ9_min_7cf53 (.code yJ9_min_7cf53 cJ9_min_7cf53 2 (some .int)) rmJ9_min_7cf53 SJ9_min_7cf53 := by
  refine Snd.ofF lJ9_min_7cf53 (by decide +kernel) (fun _ => rfl) ?_
  intro Γ hC hnt hnm J hJ L a
  match L with
  | 0 => exact pJ9_min_7cf53_0 hC hnt J hJ a
  | L + 1 => exact c_no
/-! SpiritWallModel.joins(II)V -/
theorem dX11_joins_0 : decode cX11_joins 0 = .ok (.aload_n 0, 1) := by decide +kernel
theorem dX11_joins_1 : decode cX11_joins 1 = .ok (.getfield 44, 3) := by decide +kernel
theorem dX11_joins_4 : decode cX11_joins 4 = .ok (.iload_n 1, 1) := by decide +kernel
theorem dX11_joins_5 : decode cX11_joins 5 = .ok (.iaload, 1) := by decide +kernel
theorem dX11_joins_6 : decode cX11_joins 6 = .ok (.aload_n 0, 1) := by decide +kernel
theorem dX11_joins_7 : decode cX11_joins 7 = .ok (.getfield 44, 3) := by decide +kernel
theorem dX11_joins_10 : decode cX11_joins 10 = .ok (.iload_n 2, 1) := by decide +kernel
theorem dX11_joins_11 : decode cX11_joins 11 = .ok (.iaload, 1) := by decide +kernel
theorem dX11_joins_12 : decode cX11_joins 12 = .ok (.invokestatic 176, 3) := by decide +kernel
theorem dX11_joins_15 : decode cX11_joins 15 = .ok (.istore_n 3, 1) := by decide +kernel
theorem dX11_joins_16 : decode cX11_joins 16 = .ok (.aload_n 0, 1) := by decide +kernel
theorem dX11_joins_17 : decode cX11_joins 17 = .ok (.getfield 44, 3) := by decide +kernel
theorem dX11_joins_20 : decode cX11_joins 20 = .ok (.iload_n 1, 1) := by decide +kernel
theorem dX11_joins_21 : decode cX11_joins 21 = .ok (.iaload, 1) := by decide +kernel
theorem dX11_joins_22 : decode cX11_joins 22 = .ok (.aload_n 0, 1) := by decide +kernel
theorem dX11_joins_23 : decode cX11_joins 23 = .ok (.getfield 44, 3) := by decide +kernel
theorem dX11_joins_26 : decode cX11_joins 26 = .ok (.iload_n 2, 1) := by decide +kernel
theorem dX11_joins_27 : decode cX11_joins 27 = .ok (.iaload, 1) := by decide +kernel
theorem dX11_joins_28 : decode cX11_joins 28 = .ok (.invokestatic 179, 3) := by decide +kernel
theorem dX11_joins_31 : decode cX11_joins 31 = .ok (.istore 4, 2) := by decide +kernel
theorem dX11_joins_33 : decode cX11_joins 33 = .ok (.iconst 0, 1) := by decide +kernel
theorem dX11_joins_34 : decode cX11_joins 34 = .ok (.istore 5, 2) := by decide +kernel
theorem dX11_joins_36 : decode cX11_joins 36 = .ok (.iload 5, 2) := by decide +kernel
theorem dX11_joins_38 : decode cX11_joins 38 = .ok (.aload_n 0, 1) := by decide +kernel
theorem dX11_joins_39 : decode cX11_joins 39 = .ok (.invokevirtual 85, 3) := by decide +kernel
theorem dX11_joins_42 : decode cX11_joins 42 = .ok (.if_icmp .ge 29, 3) := by decide +kernel
theorem dX11_joins_45 : decode cX11_joins 45 = .ok (.aload_n 0, 1) := by decide +kernel
theorem dX11_joins_46 : decode cX11_joins 46 = .ok (.getfield 44, 3) := by decide +kernel
theorem dX11_joins_49 : decode cX11_joins 49 = .ok (.iload 5, 2) := by decide +kernel
theorem dX11_joins_51 : decode cX11_joins 51 = .ok (.iaload, 1) := by decide +kernel
theorem dX11_joins_52 : decode cX11_joins 52 = .ok (.iload_n 3, 1) := by decide +kernel
theorem dX11_joins_53 : decode cX11_joins 53 = .ok (.if_icmp .ne 12, 3) := by decide +kernel
theorem dX11_joins_56 : decode cX11_joins 56 = .ok (.aload_n 0, 1) := by decide +kernel
theorem dX11_joins_57 : decode cX11_joins 57 = .ok (.getfield 44, 3) := by decide +kernel
theorem dX11_joins_60 : decode cX11_joins 60 = .ok (.iload 5, 2) := by decide +kernel
theorem dX11_joins_62 : decode cX11_joins 62 = .ok (.iload 4, 2) := by decide +kernel
theorem dX11_joins_64 : decode cX11_joins 64 = .ok (.iastore, 1) := by decide +kernel
theorem dX11_joins_65 : decode cX11_joins 65 = .ok (.iinc 5 1, 3) := by decide +kernel
theorem dX11_joins_68 : decode cX11_joins 68 = .ok (.goto (-32), 3) := by decide +kernel
theorem dX11_joins_71 : decode cX11_joins 71 = .ok (.return_, 1) := by decide +kernel
def rmX11_joins : Room := rmk 7 0 0 171
theorem nX11_joins : nameOk yX11_joins 2 = true := by decide +kernel
def bX11_joins_0 (J : JT) : List Value → Sem
  | [.ref x0, .int x1, .int x2] =>
    gR 11 15 x0 fun r1 =>
    aI r1 x1 fun v2 =>
    gR 11 15 x0 fun r3 =>
    aI r3 x2 fun v4 =>
    cI SJ9_max_7cf53 [.int v2, .int v4] fun v5 =>
    gR 11 15 x0 fun r6 =>
    aI r6 x1 fun v7 =>
    gR 11 15 x0 fun r8 =>
    aI r8 x2 fun v9 =>
    cI SJ9_min_7cf53 [.int v7, .int v9] fun v10 =>
    J 1 [.ref x0, .int v5, .int v10, .int 0]
  | _ => no
def bX11_joins_1 (J : JT) : List Value → Sem
  | [.ref x0, .int x3, .int x4, .int x5] =>
    ob 11 x0 (cI SX11_marks [.ref x0] fun v1 =>
    br (v1 ≤ x5)
    (rV)
    (gR 11 15 x0 fun r2 =>
    aI r2 x5 fun v3 =>
    br (v3 = x3)
    (gR 11 15 x0 fun r4 =>
    sA r4 x5 x4 <|
    J 1 [.ref x0, .int x3, .int x4, .int (x5 + 1)])
    (J 1 [.ref x0, .int x3, .int x4, .int (x5 + 1)])))
  | _ => no
def bX11_joins (J : JT) : JT := fun L a => match L with
  | 0 => bX11_joins_0 J a
  | 1 => bX11_joins_1 J a
  | _ => no
def SX11_joins : ST := mk 6 bX11_joins
def lX11_joins (L : Nat) (a : List Value) : Nat × Nat × Nat × List (Nat × Value) × List Value := match L with
  | 0 => (0, 0, 0, lv_args 0 a, [])
  | 1 => (0, 0, 36, List.zip [0, 3, 4, 5] a, [])
  | _ => (0, 0, 0, [], [])
theorem pX11_joins_0 {Γ : CT} (hC : Ctx Γ "SpiritWallModel" cX11_joins 6 none rmX11_joins) (hnt : NT Γ) (J : JT) (hJ : ∀ L a, Cor Γ 6 (lX11_joins L a).1 (lX11_joins L a).2.1 (lX11_joins L a).2.2.1 (lX11_joins L a).2.2.2.1 (lX11_joins L a).2.2.2.2 (J L a)) (a : List Value) : Cor Γ 6 0 0 0 (lv_args 0 a) [] (bX11_joins_0 J a) := by
  unfold bX11_joins_0
  split
  · rename_i x0 x1 x2
    refine c_sub [0, 1, 2] rfl (loc' := [(0, .ref x0), (1, .int x1), (2, .int x2)]) ?_
    refine q_aload_n hC 0 dX11_joins_0 rfl rfl ?_
    refine q_getR hC (by decide) (by decide) rfl w_820 dX11_joins_1 (fun r1 => ?_)
    refine q_iload_n hC 1 dX11_joins_4 rfl rfl ?_
    refine q_iald hC dX11_joins_5 (fun v2 => ?_)
    refine q_aload_n hC 0 dX11_joins_6 rfl rfl ?_
    refine q_getR hC (by decide) (by decide) rfl w_820 dX11_joins_7 (fun r3 => ?_)
    refine q_iload_n hC 2 dX11_joins_10 rfl rfl ?_
    refine q_iald hC dX11_joins_11 (fun v4 => ?_)
    refine q_cSI hC hnt (stk := []) (as := [.int v2, .int v4]) sJ9_max_7cf53 nJ9_max_7cf53 rfl w_936 w_938 w_351 w_937 (Nat.le_of_ble_eq_true rfl) dX11_joins_12 rfl (fun v5 => ?_)
    refine q_istore_nA hC (loc' := [(3, .int v5), (0, .ref x0), (1, .int x1), (2, .int x2)]) dX11_joins_15 rfl (Nat.le_of_ble_eq_true rfl) rfl ?_
    refine q_aload_n hC 1 dX11_joins_16 rfl rfl ?_
    refine q_getR hC (by decide) (by decide) rfl w_820 dX11_joins_17 (fun r6 => ?_)
    refine q_iload_n hC 2 dX11_joins_20 rfl rfl ?_
    refine q_iald hC dX11_joins_21 (fun v7 => ?_)
    refine q_aload_n hC 1 dX11_joins_22 rfl rfl ?_
    refine q_getR hC (by decide) (by decide) rfl w_820 dX11_joins_23 (fun r8 => ?_)
    refine q_iload_n hC 3 dX11_joins_26 rfl rfl ?_
    refine q_iald hC dX11_joins_27 (fun v9 => ?_)
    refine q_cSI hC hnt (stk := []) (as := [.int v7, .int v9]) sJ9_min_7cf53 nJ9_min_7cf53 rfl w_939 w_941 w_351 w_940 (Nat.le_of_ble_eq_true rfl) dX11_joins_28 rfl (fun v10 => ?_)
    refine q_istoreA hC (loc' := [(4, .int v10), (3, .int v5), (0, .ref x0), (1, .int x1), (2, .int x2)]) dX11_joins_31 (Nat.le_of_ble_eq_true rfl) rfl ?_
    refine q_iconst hC dX11_joins_33 rfl ?_
    refine q_istoreA hC (loc' := [(5, .int 0), (4, .int v10), (3, .int v5), (0, .ref x0), (1, .int x1), (2, .int x2)]) dX11_joins_34 (Nat.le_of_ble_eq_true rfl) rfl ?_
    exact c_sub [3, 2, 1, 0] rfl (hJ 1 [.ref x0, .int v5, .int v10, .int 0])
  · exact c_no
theorem pX11_joins_1 {Γ : CT} (hC : Ctx Γ "SpiritWallModel" cX11_joins 6 none rmX11_joins) (hnt : NT Γ) (J : JT) (hJ : ∀ L a, Cor Γ 6 (lX11_joins L a).1 (lX11_joins L a).2.1 (lX11_joins L a).2.2.1 (lX11_joins L a).2.2.2.1 (lX11_joins L a).2.2.2.2 (J L a)) (a : List Value) : Cor Γ 6 0 0 36 (List.zip [0, 3, 4, 5] a) [] (bX11_joins_1 J a) := by
  unfold bX11_joins_1
  split
  · rename_i x0 x3 x4 x5
    refine c_sub [0, 1, 2, 3] rfl (loc' := [(0, .ref x0), (3, .int x3), (4, .int x4), (5, .int x5)]) ?_
    refine q_iload hC 3 dX11_joins_36 rfl ?_
    refine q_aload_n hC 0 dX11_joins_38 rfl rfl ?_
    refine q_cVI hC hnt (stk := [.int x5]) (as := []) sX11_marks (ci := 11) (by decide) rfl nX11_marks rfl w_843 w_845 w_846 w_830 w_844 (Nat.le_of_ble_eq_true rfl) dX11_joins_39 rfl (fun v1 => ?_)
    refine q_ic_ge hC 71 dX11_joins_42 rfl ?_ ?_
    · exact q_vret hC dX11_joins_71 (Nat.le_of_ble_eq_true rfl) (Nat.le_of_ble_eq_true rfl)
    · refine q_aload_n hC 0 dX11_joins_45 rfl rfl ?_
      refine q_getR hC (by decide) (by decide) rfl w_820 dX11_joins_46 (fun r2 => ?_)
      refine q_iload hC 3 dX11_joins_49 rfl ?_
      refine q_iald hC dX11_joins_51 (fun v3 => ?_)
      refine q_iload_n hC 1 dX11_joins_52 rfl rfl ?_
      refine q_ic_ne hC 65 dX11_joins_53 rfl ?_ ?_
      · refine q_iincA hC (loc' := [(5, .int (x5 + 1)), (0, .ref x0), (3, .int x3), (4, .int x4)]) 3 1 dX11_joins_65 rfl rfl (Nat.le_of_ble_eq_true rfl) rfl ?_
        refine q_goto hC 36 dX11_joins_68 rfl ?_
        exact c_sub [1, 2, 3, 0] rfl (hJ 1 [.ref x0, .int x3, .int x4, .int (x5 + 1)])
      · refine q_aload_n hC 0 dX11_joins_56 rfl rfl ?_
        refine q_getR hC (by decide) (by decide) rfl w_820 dX11_joins_57 (fun r4 => ?_)
        refine q_iload hC 3 dX11_joins_60 rfl ?_
        refine q_iload hC 2 dX11_joins_62 rfl ?_
        refine q_iast hC dX11_joins_64 ?_
        refine q_iincA hC (loc' := [(5, .int (x5 + 1)), (0, .ref x0), (3, .int x3), (4, .int x4)]) 3 1 dX11_joins_65 rfl rfl (Nat.le_of_ble_eq_true rfl) rfl ?_
        refine q_goto hC 36 dX11_joins_68 rfl ?_
        exact c_sub [1, 2, 3, 0] rfl (hJ 1 [.ref x0, .int x3, .int x4, .int (x5 + 1)])
  · exact c_no
theorem sX11_joins : Snd yX11_joins (.code yX11_joins cX11_joins 6 none) rmX11_joins SX11_joins := by
  refine Snd.of lX11_joins (by decide +kernel) (fun _ => rfl) ?_
  intro Γ hC hnt hnm J hJ L a
  match L with
  | 0 => exact pX11_joins_0 hC hnt J hJ a
  | 1 => exact pX11_joins_1 hC hnt J hJ a
  | L + 2 => exact c_no
