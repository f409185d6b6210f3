/-! SpiritWall$Heights.levelNext(LSpiritWall$State;)V -/
theorem dX2_levelNext_0 : decode cX2_levelNext 0 = .ok (.iconst (-1), 1) := by decide +kernel
theorem dX2_levelNext_1 : decode cX2_levelNext 1 = .ok (.istore_n 2, 1) := by decide +kernel
theorem dX2_levelNext_2 : decode cX2_levelNext 2 = .ok (.iconst (-1), 1) := by decide +kernel
theorem dX2_levelNext_3 : decode cX2_levelNext 3 = .ok (.istore_n 3, 1) := by decide +kernel
theorem dX2_levelNext_4 : decode cX2_levelNext 4 = .ok (.iconst 0, 1) := by decide +kernel
theorem dX2_levelNext_5 : decode cX2_levelNext 5 = .ok (.istore 4, 2) := by decide +kernel
theorem dX2_levelNext_7 : decode cX2_levelNext 7 = .ok (.iconst 0, 1) := by decide +kernel
theorem dX2_levelNext_8 : decode cX2_levelNext 8 = .ok (.istore 5, 2) := by decide +kernel
theorem dX2_levelNext_10 : decode cX2_levelNext 10 = .ok (.iload 5, 2) := by decide +kernel
theorem dX2_levelNext_12 : decode cX2_levelNext 12 = .ok (.aload_n 0, 1) := by decide +kernel
theorem dX2_levelNext_13 : decode cX2_levelNext 13 = .ok (.getfield 15, 3) := by decide +kernel
theorem dX2_levelNext_16 : decode cX2_levelNext 16 = .ok (.getfield 39, 3) := by decide +kernel
theorem dX2_levelNext_19 : decode cX2_levelNext 19 = .ok (.getfield 45, 3) := by decide +kernel
theorem dX2_levelNext_22 : decode cX2_levelNext 22 = .ok (.if_icmp .ge 120, 3) := by decide +kernel
theorem dX2_levelNext_25 : decode cX2_levelNext 25 = .ok (.aload_n 1, 1) := by decide +kernel
theorem dX2_levelNext_26 : decode cX2_levelNext 26 = .ok (.iload 5, 2) := by decide +kernel
theorem dX2_levelNext_28 : decode cX2_levelNext 28 = .ok (.invokevirtual 51, 3) := by decide +kernel
theorem dX2_levelNext_31 : decode cX2_levelNext 31 = .ok (.ifCond .eq 6, 3) := by decide +kernel
theorem dX2_levelNext_34 : decode cX2_levelNext 34 = .ok (.goto 102, 3) := by decide +kernel
theorem dX2_levelNext_37 : decode cX2_levelNext 37 = .ok (.iconst 0, 1) := by decide +kernel
theorem dX2_levelNext_38 : decode cX2_levelNext 38 = .ok (.istore 6, 2) := by decide +kernel
theorem dX2_levelNext_40 : decode cX2_levelNext 40 = .ok (.iload 6, 2) := by decide +kernel
theorem dX2_levelNext_42 : decode cX2_levelNext 42 = .ok (.aload_n 0, 1) := by decide +kernel
theorem dX2_levelNext_43 : decode cX2_levelNext 43 = .ok (.getfield 15, 3) := by decide +kernel
theorem dX2_levelNext_46 : decode cX2_levelNext 46 = .ok (.getfield 39, 3) := by decide +kernel
theorem dX2_levelNext_49 : decode cX2_levelNext 49 = .ok (.getfield 45, 3) := by decide +kernel
theorem dX2_levelNext_52 : decode cX2_levelNext 52 = .ok (.if_icmp .ge 84, 3) := by decide +kernel
theorem dX2_levelNext_55 : decode cX2_levelNext 55 = .ok (.aload_n 1, 1) := by decide +kernel
theorem dX2_levelNext_56 : decode cX2_levelNext 56 = .ok (.iload 6, 2) := by decide +kernel
theorem dX2_levelNext_58 : decode cX2_levelNext 58 = .ok (.invokevirtual 51, 3) := by decide +kernel
theorem dX2_levelNext_61 : decode cX2_levelNext 61 = .ok (.ifCond .eq 69, 3) := by decide +kernel
theorem dX2_levelNext_64 : decode cX2_levelNext 64 = .ok (.aload_n 0, 1) := by decide +kernel
theorem dX2_levelNext_65 : decode cX2_levelNext 65 = .ok (.getfield 15, 3) := by decide +kernel
theorem dX2_levelNext_68 : decode cX2_levelNext 68 = .ok (.iload 6, 2) := by decide +kernel
theorem dX2_levelNext_70 : decode cX2_levelNext 70 = .ok (.iload 5, 2) := by decide +kernel
theorem dX2_levelNext_72 : decode cX2_levelNext 72 = .ok (.invokevirtual 55, 3) := by decide +kernel
theorem dX2_levelNext_75 : decode cX2_levelNext 75 = .ok (.iconst (-1), 1) := by decide +kernel
theorem dX2_levelNext_76 : decode cX2_levelNext 76 = .ok (.if_icmp .ne 6, 3) := by decide +kernel
theorem dX2_levelNext_79 : decode cX2_levelNext 79 = .ok (.goto 51, 3) := by decide +kernel
theorem dX2_levelNext_82 : decode cX2_levelNext 82 = .ok (.aload_n 0, 1) := by decide +kernel
theorem dX2_levelNext_83 : decode cX2_levelNext 83 = .ok (.getfield 9, 3) := by decide +kernel
theorem dX2_levelNext_86 : decode cX2_levelNext 86 = .ok (.iload 6, 2) := by decide +kernel
theorem dX2_levelNext_88 : decode cX2_levelNext 88 = .ok (.invokestatic 59, 3) := by decide +kernel
theorem dX2_levelNext_91 : decode cX2_levelNext 91 = .ok (.aload_n 0, 1) := by decide +kernel
theorem dX2_levelNext_92 : decode cX2_levelNext 92 = .ok (.getfield 15, 3) := by decide +kernel
theorem dX2_levelNext_95 : decode cX2_levelNext 95 = .ok (.getfield 39, 3) := by decide +kernel
theorem dX2_levelNext_98 : decode cX2_levelNext 98 = .ok (.iload 6, 2) := by decide +kernel
theorem dX2_levelNext_100 : decode cX2_levelNext 100 = .ok (.iload 5, 2) := by decide +kernel
theorem dX2_levelNext_102 : decode cX2_levelNext 102 = .ok (.invokevirtual 63, 3) := by decide +kernel
theorem dX2_levelNext_105 : decode cX2_levelNext 105 = .ok (.iadd, 1) := by decide +kernel
theorem dX2_levelNext_106 : decode cX2_levelNext 106 = .ok (.istore 7, 2) := by decide +kernel
theorem dX2_levelNext_108 : decode cX2_levelNext 108 = .ok (.iload_n 2, 1) := by decide +kernel
theorem dX2_levelNext_109 : decode cX2_levelNext 109 = .ok (.iconst (-1), 1) := by decide +kernel
theorem dX2_levelNext_110 : decode cX2_levelNext 110 = .ok (.if_icmp .eq 10, 3) := by decide +kernel
theorem dX2_levelNext_113 : decode cX2_levelNext 113 = .ok (.iload 7, 2) := by decide +kernel
theorem dX2_levelNext_115 : decode cX2_levelNext 115 = .ok (.iload 4, 2) := by decide +kernel
theorem dX2_levelNext_117 : decode cX2_levelNext 117 = .ok (.if_icmp .ge 13, 3) := by decide +kernel
theorem dX2_levelNext_120 : decode cX2_levelNext 120 = .ok (.iload 5, 2) := by decide +kernel
theorem dX2_levelNext_122 : decode cX2_levelNext 122 = .ok (.istore_n 2, 1) := by decide +kernel
theorem dX2_levelNext_123 : decode cX2_levelNext 123 = .ok (.iload 6, 2) := by decide +kernel
theorem dX2_levelNext_125 : decode cX2_levelNext 125 = .ok (.istore_n 3, 1) := by decide +kernel
theorem dX2_levelNext_126 : decode cX2_levelNext 126 = .ok (.iload 7, 2) := by decide +kernel
theorem dX2_levelNext_128 : decode cX2_levelNext 128 = .ok (.istore 4, 2) := by decide +kernel
theorem dX2_levelNext_130 : decode cX2_levelNext 130 = .ok (.iinc 6 1, 3) := by decide +kernel
theorem dX2_levelNext_133 : decode cX2_levelNext 133 = .ok (.goto (-93), 3) := by decide +kernel
theorem dX2_levelNext_136 : decode cX2_levelNext 136 = .ok (.iinc 5 1, 3) := by decide +kernel
theorem dX2_levelNext_139 : decode cX2_levelNext 139 = .ok (.goto (-129), 3) := by decide +kernel
theorem dX2_levelNext_142 : decode cX2_levelNext 142 = .ok (.iload_n 2, 1) := by decide +kernel
theorem dX2_levelNext_143 : decode cX2_levelNext 143 = .ok (.iconst (-1), 1) := by decide +kernel
theorem dX2_levelNext_144 : decode cX2_levelNext 144 = .ok (.if_icmp .ne 4, 3) := by decide +kernel
theorem dX2_levelNext_147 : decode cX2_levelNext 147 = .ok (.return_, 1) := by decide +kernel
theorem dX2_levelNext_148 : decode cX2_levelNext 148 = .ok (.aload_n 0, 1) := by decide +kernel
theorem dX2_levelNext_149 : decode cX2_levelNext 149 = .ok (.getfield 9, 3) := by decide +kernel
theorem dX2_levelNext_152 : decode cX2_levelNext 152 = .ok (.iload_n 2, 1) := by decide +kernel
theorem dX2_levelNext_153 : decode cX2_levelNext 153 = .ok (.iload 4, 2) := by decide +kernel
theorem dX2_levelNext_155 : decode cX2_levelNext 155 = .ok (.invokestatic 66, 3) := by decide +kernel
theorem dX2_levelNext_158 : decode cX2_levelNext 158 = .ok (.aload_n 1, 1) := by decide +kernel
theorem dX2_levelNext_159 : decode cX2_levelNext 159 = .ok (.iload_n 2, 1) := by decide +kernel
theorem dX2_levelNext_160 : decode cX2_levelNext 160 = .ok (.aload_n 0, 1) := by decide +kernel
theorem dX2_levelNext_161 : decode cX2_levelNext 161 = .ok (.aload_n 1, 1) := by decide +kernel
theorem dX2_levelNext_162 : decode cX2_levelNext 162 = .ok (.aload_n 0, 1) := by decide +kernel
theorem dX2_levelNext_163 : decode cX2_levelNext 163 = .ok (.getfield 15, 3) := by decide +kernel
theorem dX2_levelNext_166 : decode cX2_levelNext 166 = .ok (.iload_n 3, 1) := by decide +kernel
theorem dX2_levelNext_167 : decode cX2_levelNext 167 = .ok (.iload_n 2, 1) := by decide +kernel
theorem dX2_levelNext_168 : decode cX2_levelNext 168 = .ok (.invokevirtual 55, 3) := by decide +kernel
theorem dX2_levelNext_171 : decode cX2_levelNext 171 = .ok (.iload_n 3, 1) := by decide +kernel
theorem dX2_levelNext_172 : decode cX2_levelNext 172 = .ok (.invokevirtual 70, 3) := by decide +kernel
theorem dX2_levelNext_175 : decode cX2_levelNext 175 = .ok (.invokevirtual 74, 3) := by decide +kernel
theorem dX2_levelNext_178 : decode cX2_levelNext 178 = .ok (.return_, 1) := by decide +kernel
def rmX2_levelNext : Room := rmk 10 0 0 236
theorem nX2_levelNext : nameOk yX2_levelNext 1 = true := by decide +kernel
def bX2_levelNext_0 (J : JT) : List Value → Sem
  | [.ref x0, .ref x1] =>
    J 1 [.ref x0, .ref x1, .int (-1), .int (-1), .int 0, .int 0]
  | _ => no
def bX2_levelNext_1 (J : JT) : List Value → Sem
  | [.ref x0, .ref x1, .int x2, .int x3, .int x4, .int x5] =>
    gR 2 0 x0 fun r1 =>
    gR 0 0 r1 fun r2 =>
    gI 9 0 r2 fun v3 =>
    br (v3 ≤ x5)
    (br (x2 = ((-1) : Int32))
    (rV)
    (gR 2 1 x0 fun r4 =>
    cV SX10_put [.ref r4, .int x2, .int x4] <|
    gR 2 0 x0 fun r5 =>
    ob 0 r5 (cI SX0_between [.ref r5, .int x3, .int x2] fun v6 =>
    ob 2 x0 (cI SX2_told [.ref x0, .ref x1, .int v6, .int x3] fun v7 =>
    ob 6 x1 (cV SX6_putHeight [.ref x1, .int x2, .int v7] <|
    rV)))))
    (ob 6 x1 (cI SX6_hasHeight [.ref x1, .int x5] fun v8 =>
    br (v8 = 0)
    (J 2 [.ref x0, .ref x1, .int x2, .int x3, .int x4, .int x5, .int 0])
    (J 1 [.ref x0, .ref x1, .int x2, .int x3, .int x4, .int (x5 + 1)])))
  | _ => no
def bX2_levelNext_2 (J : JT) : List Value → Sem
  | [.ref x0, .ref x1, .int x2, .int x3, .int x4, .int x5, .int x6] =>
    gR 2 0 x0 fun r1 =>
    gR 0 0 r1 fun r2 =>
    gI 9 0 r2 fun v3 =>
    br (v3 ≤ x6)
    (J 1 [.ref x0, .ref x1, .int x2, .int x3, .int x4, .int (x5 + 1)])
    (ob 6 x1 (cI SX6_hasHeight [.ref x1, .int x6] fun v4 =>
    br (v4 = 0)
    (J 2 [.ref x0, .ref x1, .int x2, .int x3, .int x4, .int x5, .int (x6 + 1)])
    (gR 2 0 x0 fun r5 =>
    ob 0 r5 (cI SX0_between [.ref r5, .int x6, .int x5] fun v6 =>
    br (v6 = ((-1) : Int32))
    (J 2 [.ref x0, .ref x1, .int x2, .int x3, .int x4, .int x5, .int (x6 + 1)])
    (gR 2 1 x0 fun r7 =>
    cI SX10_cell [.ref r7, .int x6] fun v8 =>
    gR 2 0 x0 fun r9 =>
    gR 0 0 r9 fun r10 =>
    ob 9 r10 (cI SX9_distance [.ref r10, .int x6, .int x5] fun v11 =>
    lI (v8 + v11) fun y7_12 =>
    br (x2 = ((-1) : Int32))
    (J 2 [.ref x0, .ref x1, .int x5, .int x6, .int y7_12, .int x5, .int (x6 + 1)])
    (br (x4 ≤ y7_12)
    (J 2 [.ref x0, .ref x1, .int x2, .int x3, .int x4, .int x5, .int (x6 + 1)])
    (J 2 [.ref x0, .ref x1, .int x5, .int x6, .int y7_12, .int x5, .int (x6 + 1)]))))))))
  | _ => no
def bX2_levelNext (J : JT) : JT := fun L a => match L with
  | 0 => bX2_levelNext_0 J a
  | 1 => bX2_levelNext_1 J a
  | 2 => bX2_levelNext_2 J a
  | _ => no
def SX2_levelNext : ST := mk 8 bX2_levelNext
def lX2_levelNext (L : Nat) (a : List Value) : Nat × Nat × Nat × List (Nat × Value) × List Value := match L with
  | 0 => (0, 0, 0, lv_args 0 a, [])
  | 1 => (0, 0, 10, List.zip [0, 1, 2, 3, 4, 5] a, [])
  | 2 => (0, 0, 40, List.zip [0, 1, 2, 3, 4, 5, 6] a, [])
  | _ => (0, 0, 0, [], [])
theorem pX2_levelNext_0 {Γ : CT} (hC : Ctx Γ "SpiritWall$Heights" cX2_levelNext 8 none rmX2_levelNext) (hnt : NT Γ) (J : JT) (hJ : ∀ L a, Cor Γ 8 (lX2_levelNext L a).1 (lX2_levelNext L a).2.1 (lX2_levelNext L a).2.2.1 (lX2_levelNext L a).2.2.2.1 (lX2_levelNext L a).2.2.2.2 (J L a)) (a : List Value) : Cor Γ 8 0 0 0 (lv_args 0 a) [] (bX2_levelNext_0 J a) := by
  unfold bX2_levelNext_0
  split
  · rename_i x0 x1
    refine c_sub [0, 1] rfl (loc' := [(0, .ref x0), (1, .ref x1)]) ?_
    refine q_iconst hC dX2_levelNext_0 rfl ?_
    refine q_istore_nA hC (loc' := [(2, .int (-1)), (0, .ref x0), (1, .ref x1)]) dX2_levelNext_1 rfl (Nat.le_of_ble_eq_true rfl) rfl ?_
    refine q_iconst hC dX2_levelNext_2 rfl ?_
    refine q_istore_nA hC (loc' := [(3, .int (-1)), (2, .int (-1)), (0, .ref x0), (1, .ref x1)]) dX2_levelNext_3 rfl (Nat.le_of_ble_eq_true rfl) rfl ?_
    refine q_iconst hC dX2_levelNext_4 rfl ?_
    refine q_istoreA hC (loc' := [(4, .int 0), (3, .int (-1)), (2, .int (-1)), (0, .ref x0), (1, .ref x1)]) dX2_levelNext_5 (Nat.le_of_ble_eq_true rfl) rfl ?_
    refine q_iconst hC dX2_levelNext_7 rfl ?_
    refine q_istoreA hC (loc' := [(5, .int 0), (4, .int 0), (3, .int (-1)), (2, .int (-1)), (0, .ref x0), (1, .ref x1)]) dX2_levelNext_8 (Nat.le_of_ble_eq_true rfl) rfl ?_
    exact c_sub [4, 5, 3, 2, 1, 0] rfl (hJ 1 [.ref x0, .ref x1, .int (-1), .int (-1), .int 0, .int 0])
  · exact c_no
theorem pX2_levelNext_1 {Γ : CT} (hC : Ctx Γ "SpiritWall$Heights" cX2_levelNext 8 none rmX2_levelNext) (hnt : NT Γ) (J : JT) (hJ : ∀ L a, Cor Γ 8 (lX2_levelNext L a).1 (lX2_levelNext L a).2.1 (lX2_levelNext L a).2.2.1 (lX2_levelNext L a).2.2.2.1 (lX2_levelNext L a).2.2.2.2 (J L a)) (a : List Value) : Cor Γ 8 0 0 10 (List.zip [0, 1, 2, 3, 4, 5] a) [] (bX2_levelNext_1 J a) := by
  unfold bX2_levelNext_1
  split
  · rename_i x0 x1 x2 x3 x4 x5
    refine c_sub [0, 1, 2, 3, 4, 5] rfl (loc' := [(0, .ref x0), (1, .ref x1), (2, .int x2), (3, .int x3), (4, .int x4), (5, .int x5)]) ?_
    refine q_iload hC 5 dX2_levelNext_10 rfl ?_
    refine q_aload_n hC 0 dX2_levelNext_12 rfl rfl ?_
    refine q_getR hC (by decide) (by decide) rfl w_122 dX2_levelNext_13 (fun r1 => ?_)
    refine q_getR hC (by decide) (by decide) rfl w_729 dX2_levelNext_16 (fun r2 => ?_)
    refine q_getI hC (by decide) (by decide) rfl w_730 dX2_levelNext_19 (fun v3 => ?_)
    refine q_ic_ge hC 142 dX2_levelNext_22 rfl ?_ ?_
    · refine q_iload_n hC 2 dX2_levelNext_142 rfl rfl ?_
      refine q_iconst hC dX2_levelNext_143 rfl ?_
      refine q_ic_ne hC 148 dX2_levelNext_144 rfl ?_ ?_
      · refine q_aload_n hC 0 dX2_levelNext_148 rfl rfl ?_
        refine q_getR hC (by decide) (by decide) rfl w_121 dX2_levelNext_149 (fun r4 => ?_)
        refine q_iload_n hC 2 dX2_levelNext_152 rfl rfl ?_
        refine q_iload hC 4 dX2_levelNext_153 rfl ?_
        refine q_cNV hC hnt (stk := []) (as := [.ref r4, .int x2, .int x4]) sX10_put nX10_put rfl w_731 w_187 w_27 w_186 (Nat.le_of_ble_eq_true rfl) dX2_levelNext_155 rfl ?_
        refine q_aload_n hC 1 dX2_levelNext_158 rfl rfl ?_
        refine q_iload_n hC 2 dX2_levelNext_159 rfl rfl ?_
        refine q_aload_n hC 0 dX2_levelNext_160 rfl rfl ?_
        refine q_aload_n hC 1 dX2_levelNext_161 rfl rfl ?_
        refine q_aload_n hC 0 dX2_levelNext_162 rfl rfl ?_
        refine q_getR hC (by decide) (by decide) rfl w_122 dX2_levelNext_163 (fun r5 => ?_)
        refine q_iload_n hC 3 dX2_levelNext_166 rfl rfl ?_
        refine q_iload_n hC 2 dX2_levelNext_167 rfl rfl ?_
        refine q_cVI hC hnt (stk := [.ref x1, .ref x0, .int x2, .ref x1]) (as := [.int x3, .int x2]) sX0_between (ci := 0) (by decide) rfl nX0_between rfl w_732 w_406 w_407 w_149 w_405 (Nat.le_of_ble_eq_true rfl) dX2_levelNext_168 rfl (fun v6 => ?_)
        refine q_iload_n hC 3 dX2_levelNext_171 rfl rfl ?_
        refine q_cVI hC hnt (stk := [.int x2, .ref x1]) (as := [.ref x1, .int v6, .int x3]) sX2_told (ci := 2) (by decide) rfl nX2_told rfl w_699 w_701 w_702 w_164 w_700 (Nat.le_of_ble_eq_true rfl) dX2_levelNext_172 rfl (fun v7 => ?_)
        refine q_cVV hC hnt (stk := []) (as := [.int x2, .int v7]) sX6_putHeight (ci := 6) (by decide) rfl nX6_putHeight rfl w_733 w_249 w_250 w_35 w_248 (Nat.le_of_ble_eq_true rfl) dX2_levelNext_175 rfl ?_
        exact q_vret hC dX2_levelNext_178 (Nat.le_of_ble_eq_true rfl) (Nat.le_of_ble_eq_true rfl)
      · exact q_vret hC dX2_levelNext_147 (Nat.le_of_ble_eq_true rfl) (Nat.le_of_ble_eq_true rfl)
    · refine q_aload_n hC 1 dX2_levelNext_25 rfl rfl ?_
      refine q_iload hC 5 dX2_levelNext_26 rfl ?_
      refine q_cVI hC hnt (stk := []) (as := [.int x5]) sX6_hasHeight (ci := 6) (by decide) rfl nX6_hasHeight rfl w_698 w_607 w_608 w_35 w_606 (Nat.le_of_ble_eq_true rfl) dX2_levelNext_28 rfl (fun v8 => ?_)
      refine q_if_eq hC 37 dX2_levelNext_31 rfl ?_ ?_
      · refine q_iconst hC dX2_levelNext_37 rfl ?_
        refine q_istoreA hC (loc' := [(6, .int 0), (0, .ref x0), (1, .ref x1), (2, .int x2), (3, .int x3), (4, .int x4), (5, .int x5)]) dX2_levelNext_38 (Nat.le_of_ble_eq_true rfl) rfl ?_
        exact c_sub [1, 2, 3, 4, 5, 6, 0] rfl (hJ 2 [.ref x0, .ref x1, .int x2, .int x3, .int x4, .int x5, .int 0])
      · refine q_goto hC 136 dX2_levelNext_34 rfl ?_
        refine q_iincA hC (loc' := [(5, .int (x5 + 1)), (0, .ref x0), (1, .ref x1), (2, .int x2), (3, .int x3), (4, .int x4)]) 5 1 dX2_levelNext_136 rfl rfl (Nat.le_of_ble_eq_true rfl) rfl ?_
        refine q_goto hC 10 dX2_levelNext_139 rfl ?_
        exact c_sub [1, 2, 3, 4, 5, 0] rfl (hJ 1 [.ref x0, .ref x1, .int x2, .int x3, .int x4, .int (x5 + 1)])
  · exact c_no
theorem pX2_levelNext_2 {Γ : CT} (hC : Ctx Γ "SpiritWall$Heights" cX2_levelNext 8 none rmX2_levelNext) (hnt : NT Γ) (J : JT) (hJ : ∀ L a, Cor Γ 8 (lX2_levelNext L a).1 (lX2_levelNext L a).2.1 (lX2_levelNext L a).2.2.1 (lX2_levelNext L a).2.2.2.1 (lX2_levelNext L a).2.2.2.2 (J L a)) (a : List Value) : Cor Γ 8 0 0 40 (List.zip [0, 1, 2, 3, 4, 5, 6] a) [] (bX2_levelNext_2 J a) := by
  unfold bX2_levelNext_2
  split
  · rename_i x0 x1 x2 x3 x4 x5 x6
    refine c_sub [0, 1, 2, 3, 4, 5, 6] rfl (loc' := [(0, .ref x0), (1, .ref x1), (2, .int x2), (3, .int x3), (4, .int x4), (5, .int x5), (6, .int x6)]) ?_
    refine q_iload hC 6 dX2_levelNext_40 rfl ?_
    refine q_aload_n hC 0 dX2_levelNext_42 rfl rfl ?_
    refine q_getR hC (by decide) (by decide) rfl w_122 dX2_levelNext_43 (fun r1 => ?_)
    refine q_getR hC (by decide) (by decide) rfl w_729 dX2_levelNext_46 (fun r2 => ?_)
    refine q_getI hC (by decide) (by decide) rfl w_730 dX2_levelNext_49 (fun v3 => ?_)
    refine q_ic_ge hC 136 dX2_levelNext_52 rfl ?_ ?_
    · refine q_iincA hC (loc' := [(5, .int (x5 + 1)), (0, .ref x0), (1, .ref x1), (2, .int x2), (3, .int x3), (4, .int x4), (6, .int x6)]) 5 1 dX2_levelNext_136 rfl rfl (Nat.le_of_ble_eq_true rfl) rfl ?_
      refine q_goto hC 10 dX2_levelNext_139 rfl ?_
      exact c_sub [1, 2, 3, 4, 5, 0] rfl (hJ 1 [.ref x0, .ref x1, .int x2, .int x3, .int x4, .int (x5 + 1)])
    · refine q_aload_n hC 1 dX2_levelNext_55 rfl rfl ?_
      refine q_iload hC 6 dX2_levelNext_56 rfl ?_
      refine q_cVI hC hnt (stk := []) (as := [.int x6]) sX6_hasHeight (ci := 6) (by decide) rfl nX6_hasHeight rfl w_698 w_607 w_608 w_35 w_606 (Nat.le_of_ble_eq_true rfl) dX2_levelNext_58 rfl (fun v4 => ?_)
      refine q_if_eq hC 130 dX2_levelNext_61 rfl ?_ ?_
      · refine q_iincA hC (loc' := [(6, .int (x6 + 1)), (0, .ref x0), (1, .ref x1), (2, .int x2), (3, .int x3), (4, .int x4), (5, .int x5)]) 6 1 dX2_levelNext_130 rfl rfl (Nat.le_of_ble_eq_true rfl) rfl ?_
        refine q_goto hC 40 dX2_levelNext_133 rfl ?_
        exact c_sub [1, 2, 3, 4, 5, 6, 0] rfl (hJ 2 [.ref x0, .ref x1, .int x2, .int x3, .int x4, .int x5, .int (x6 + 1)])
      · refine q_aload_n hC 0 dX2_levelNext_64 rfl rfl ?_
        refine q_getR hC (by decide) (by decide) rfl w_122 dX2_levelNext_65 (fun r5 => ?_)
        refine q_iload hC 6 dX2_levelNext_68 rfl ?_
        refine q_iload hC 5 dX2_levelNext_70 rfl ?_
        refine q_cVI hC hnt (stk := []) (as := [.int x6, .int x5]) sX0_between (ci := 0) (by decide) rfl nX0_between rfl w_732 w_406 w_407 w_149 w_405 (Nat.le_of_ble_eq_true rfl) dX2_levelNext_72 rfl (fun v6 => ?_)
        refine q_iconst hC dX2_levelNext_75 rfl ?_
        refine q_ic_ne hC 82 dX2_levelNext_76 rfl ?_ ?_
        · refine q_aload_n hC 0 dX2_levelNext_82 rfl rfl ?_
          refine q_getR hC (by decide) (by decide) rfl w_121 dX2_levelNext_83 (fun r7 => ?_)
          refine q_iload hC 6 dX2_levelNext_86 rfl ?_
          refine q_cNI hC hnt (stk := []) (as := [.ref r7, .int x6]) sX10_cell nX10_cell rfl w_696 w_202 w_27 w_201 (Nat.le_of_ble_eq_true rfl) dX2_levelNext_88 rfl (fun v8 => ?_)
          refine q_aload_n hC 0 dX2_levelNext_91 rfl rfl ?_
          refine q_getR hC (by decide) (by decide) rfl w_122 dX2_levelNext_92 (fun r9 => ?_)
          refine q_getR hC (by decide) (by decide) rfl w_729 dX2_levelNext_95 (fun r10 => ?_)
          refine q_iload hC 6 dX2_levelNext_98 rfl ?_
          refine q_iload hC 5 dX2_levelNext_100 rfl ?_
          refine q_cVI hC hnt (stk := [.int v8]) (as := [.int x6, .int x5]) sX9_distance (ci := 9) (by decide) rfl nX9_distance rfl w_734 w_371 w_372 w_65 w_370 (Nat.le_of_ble_eq_true rfl) dX2_levelNext_102 rfl (fun v11 => ?_)
          refine q_iadd hC dX2_levelNext_105 ?_
          refine q_istore hC (fun y7_12 => [(7, .int y7_12), (0, .ref x0), (1, .ref x1), (2, .int x2), (3, .int x3), (4, .int x4), (5, .int x5), (6, .int x6)]) dX2_levelNext_106 (Nat.le_of_ble_eq_true rfl) (fun _ => rfl) (fun y7_12 => ?_)
          refine q_iload_n hC 3 dX2_levelNext_108 rfl rfl ?_
          refine q_iconst hC dX2_levelNext_109 rfl ?_
          refine q_ic_eq hC 120 dX2_levelNext_110 rfl ?_ ?_
          · refine q_iload hC 6 dX2_levelNext_120 rfl ?_
            refine q_istore_nA hC (loc' := [(2, .int x5), (7, .int y7_12), (0, .ref x0), (1, .ref x1), (3, .int x3), (4, .int x4), (5, .int x5), (6, .int x6)]) dX2_levelNext_122 rfl (Nat.le_of_ble_eq_true rfl) rfl ?_
            refine q_iload hC 7 dX2_levelNext_123 rfl ?_
            refine q_istore_nA hC (loc' := [(3, .int x6), (2, .int x5), (7, .int y7_12), (0, .ref x0), (1, .ref x1), (4, .int x4), (5, .int x5), (6, .int x6)]) dX2_levelNext_125 rfl (Nat.le_of_ble_eq_true rfl) rfl ?_
            refine q_iload hC 2 dX2_levelNext_126 rfl ?_
            refine q_istoreA hC (loc' := [(4, .int y7_12), (3, .int x6), (2, .int x5), (7, .int y7_12), (0, .ref x0), (1, .ref x1), (5, .int x5), (6, .int x6)]) dX2_levelNext_128 (Nat.le_of_ble_eq_true rfl) rfl ?_
            refine q_iincA hC (loc' := [(6, .int (x6 + 1)), (4, .int y7_12), (3, .int x6), (2, .int x5), (7, .int y7_12), (0, .ref x0), (1, .ref x1), (5, .int x5)]) 7 1 dX2_levelNext_130 rfl rfl (Nat.le_of_ble_eq_true rfl) rfl ?_
            refine q_goto hC 40 dX2_levelNext_133 rfl ?_
            exact c_sub [5, 6, 3, 2, 1, 7, 0] rfl (hJ 2 [.ref x0, .ref x1, .int x5, .int x6, .int y7_12, .int x5, .int (x6 + 1)])
          · refine q_iload hC 0 dX2_levelNext_113 rfl ?_
            refine q_iload hC 5 dX2_levelNext_115 rfl ?_
            refine q_ic_ge hC 130 dX2_levelNext_117 rfl ?_ ?_
            · refine q_iincA hC (loc' := [(6, .int (x6 + 1)), (7, .int y7_12), (0, .ref x0), (1, .ref x1), (2, .int x2), (3, .int x3), (4, .int x4), (5, .int x5)]) 7 1 dX2_levelNext_130 rfl rfl (Nat.le_of_ble_eq_true rfl) rfl ?_
              refine q_goto hC 40 dX2_levelNext_133 rfl ?_
              exact c_sub [2, 3, 4, 5, 6, 7, 0] rfl (hJ 2 [.ref x0, .ref x1, .int x2, .int x3, .int x4, .int x5, .int (x6 + 1)])
            · refine q_iload hC 6 dX2_levelNext_120 rfl ?_
              refine q_istore_nA hC (loc' := [(2, .int x5), (7, .int y7_12), (0, .ref x0), (1, .ref x1), (3, .int x3), (4, .int x4), (5, .int x5), (6, .int x6)]) dX2_levelNext_122 rfl (Nat.le_of_ble_eq_true rfl) rfl ?_
              refine q_iload hC 7 dX2_levelNext_123 rfl ?_
              refine q_istore_nA hC (loc' := [(3, .int x6), (2, .int x5), (7, .int y7_12), (0, .ref x0), (1, .ref x1), (4, .int x4), (5, .int x5), (6, .int x6)]) dX2_levelNext_125 rfl (Nat.le_of_ble_eq_true rfl) rfl ?_
              refine q_iload hC 2 dX2_levelNext_126 rfl ?_
              refine q_istoreA hC (loc' := [(4, .int y7_12), (3, .int x6), (2, .int x5), (7, .int y7_12), (0, .ref x0), (1, .ref x1), (5, .int x5), (6, .int x6)]) dX2_levelNext_128 (Nat.le_of_ble_eq_true rfl) rfl ?_
              refine q_iincA hC (loc' := [(6, .int (x6 + 1)), (4, .int y7_12), (3, .int x6), (2, .int x5), (7, .int y7_12), (0, .ref x0), (1, .ref x1), (5, .int x5)]) 7 1 dX2_levelNext_130 rfl rfl (Nat.le_of_ble_eq_true rfl) rfl ?_
              refine q_goto hC 40 dX2_levelNext_133 rfl ?_
              exact c_sub [5, 6, 3, 2, 1, 7, 0] rfl (hJ 2 [.ref x0, .ref x1, .int x5, .int x6, .int y7_12, .int x5, .int (x6 + 1)])
        · refine q_goto hC 130 dX2_levelNext_79 rfl ?_
          refine q_iincA hC (loc' := [(6, .int (x6 + 1)), (0, .ref x0), (1, .ref x1), (2, .int x2), (3, .int x3), (4, .int x4), (5, .int x5)]) 6 1 dX2_levelNext_130 rfl rfl (Nat.le_of_ble_eq_true rfl) rfl ?_
          refine q_goto hC 40 dX2_levelNext_133 rfl ?_
          exact c_sub [1, 2, 3, 4, 5, 6, 0] rfl (hJ 2 [.ref x0, .ref x1, .int x2, .int x3, .int x4, .int x5, .int (x6 + 1)])
  · exact c_no
theorem sX2_levelNext : Snd yX2_levelNext (.code yX2_levelNext cX2_levelNext 8 none) rmX2_levelNext SX2_levelNext := by
  refine Snd.of lX2_levelNext (by decide +kernel) (fun _ => rfl) ?_
  intro Γ hC hnt hnm J hJ L a
  match L with
  | 0 => exact pX2_levelNext_0 hC hnt J hJ a
  | 1 => exact pX2_levelNext_1 hC hnt J hJ a
  | 2 => exact pX2_levelNext_2 hC hnt J hJ a
  | L + 3 => exact c_no
/-! SpiritWall$Heights.levelOut(LSpiritWall$State;)V -/
theorem dX2_levelOut_0 : decode cX2_levelOut 0 = .ok (.aload_n 0, 1) := by decide +kernel
theorem dX2_levelOut_1 : decode cX2_levelOut 1 = .ok (.getfield 9, 3) := by decide +kernel
theorem dX2_levelOut_4 : decode cX2_levelOut 4 = .ok (.iconst 0, 1) := by decide +kernel
theorem dX2_levelOut_5 : decode cX2_levelOut 5 = .ok (.invokestatic 19, 3) := by decide +kernel
theorem dX2_levelOut_8 : decode cX2_levelOut 8 = .ok (.aload_n 1, 1) := by decide +kernel
theorem dX2_levelOut_9 : decode cX2_levelOut 9 = .ok (.getfield 23, 3) := by decide +kernel
theorem dX2_levelOut_12 : decode cX2_levelOut 12 = .ok (.aload_n 1, 1) := by decide +kernel
theorem dX2_levelOut_13 : decode cX2_levelOut 13 = .ok (.getfield 28, 3) := by decide +kernel
theorem dX2_levelOut_16 : decode cX2_levelOut 16 = .ok (.invokestatic 31, 3) := by decide +kernel
theorem dX2_levelOut_19 : decode cX2_levelOut 19 = .ok (.iconst 0, 1) := by decide +kernel
theorem dX2_levelOut_20 : decode cX2_levelOut 20 = .ok (.istore_n 2, 1) := by decide +kernel
theorem dX2_levelOut_21 : decode cX2_levelOut 21 = .ok (.iload_n 2, 1) := by decide +kernel
theorem dX2_levelOut_22 : decode cX2_levelOut 22 = .ok (.bipush 12, 2) := by decide +kernel
theorem dX2_levelOut_24 : decode cX2_levelOut 24 = .ok (.if_icmp .ge 14, 3) := by decide +kernel
theorem dX2_levelOut_27 : decode cX2_levelOut 27 = .ok (.aload_n 0, 1) := by decide +kernel
theorem dX2_levelOut_28 : decode cX2_levelOut 28 = .ok (.aload_n 1, 1) := by decide +kernel
theorem dX2_levelOut_29 : decode cX2_levelOut 29 = .ok (.invokevirtual 35, 3) := by decide +kernel
theorem dX2_levelOut_32 : decode cX2_levelOut 32 = .ok (.iinc 2 1, 3) := by decide +kernel
theorem dX2_levelOut_35 : decode cX2_levelOut 35 = .ok (.goto (-14), 3) := by decide +kernel
theorem dX2_levelOut_38 : decode cX2_levelOut 38 = .ok (.return_, 1) := by decide +kernel
def rmX2_levelOut : Room := rmk 11 0 0 263
theorem nX2_levelOut : nameOk yX2_levelOut 1 = true := by decide +kernel
def bX2_levelOut_0 (J : JT) : List Value → Sem
  | [.ref x0, .ref x1] =>
    gR 2 1 x0 fun r1 =>
    cV SX10_fill [.ref r1, .int 0] <|
    gR 6 4 x1 fun r2 =>
    gR 6 3 x1 fun r3 =>
    cV SX10_copyRow [.ref r2, .ref r3] <|
    J 1 [.ref x0, .ref x1, .int 0]
  | _ => no
def bX2_levelOut_1 (J : JT) : List Value → Sem
  | [.ref x0, .ref x1, .int x2] =>
    br ((12 : Int32) ≤ x2)
    (rV)
    (ob 2 x0 (cV SX2_levelNext [.ref x0, .ref x1] <|
    J 1 [.ref x0, .ref x1, .int (x2 + 1)]))
  | _ => no
def bX2_levelOut (J : JT) : JT := fun L a => match L with
  | 0 => bX2_levelOut_0 J a
  | 1 => bX2_levelOut_1 J a
  | _ => no
def SX2_levelOut : ST := mk 3 bX2_levelOut
def lX2_levelOut (L : Nat) (a : List Value) : Nat × Nat × Nat × List (Nat × Value) × List Value := match L with
  | 0 => (0, 0, 0, lv_args 0 a, [])
  | 1 => (0, 0, 21, List.zip [0, 1, 2] a, [])
  | _ => (0, 0, 0, [], [])
theorem pX2_levelOut_0 {Γ : CT} (hC : Ctx Γ "SpiritWall$Heights" cX2_levelOut 3 none rmX2_levelOut) (hnt : NT Γ) (J : JT) (hJ : ∀ L a, Cor Γ 3 (lX2_levelOut L a).1 (lX2_levelOut L a).2.1 (lX2_levelOut L a).2.2.1 (lX2_levelOut L a).2.2.2.1 (lX2_levelOut L a).2.2.2.2 (J L a)) (a : List Value) : Cor Γ 3 0 0 0 (lv_args 0 a) [] (bX2_levelOut_0 J a) := by
  unfold bX2_levelOut_0
  split
  · rename_i x0 x1
    refine c_sub [0, 1] rfl (loc' := [(0, .ref x0), (1, .ref x1)]) ?_
    refine q_aload_n hC 0 dX2_levelOut_0 rfl rfl ?_
    refine q_getR hC (by decide) (by decide) rfl w_121 dX2_levelOut_1 (fun r1 => ?_)
    refine q_iconst hC dX2_levelOut_4 rfl ?_
    refine q_cNV hC hnt (stk := []) (as := [.ref r1, .int 0]) sX10_fill nX10_fill rfl w_735 w_199 w_27 w_198 (Nat.le_of_ble_eq_true rfl) dX2_levelOut_5 rfl ?_
    refine q_aload_n hC 1 dX2_levelOut_8 rfl rfl ?_
    refine q_getR hC (by decide) (by decide) rfl w_736 dX2_levelOut_9 (fun r2 => ?_)
    refine q_aload_n hC 1 dX2_levelOut_12 rfl rfl ?_
    refine q_getR hC (by decide) (by decide) rfl w_737 dX2_levelOut_13 (fun r3 => ?_)
    refine q_cNV hC hnt (stk := []) (as := [.ref r2, .ref r3]) sX10_copyRow nX10_copyRow rfl w_738 w_26 w_27 w_25 (Nat.le_of_ble_eq_true rfl) dX2_levelOut_16 rfl ?_
    refine q_iconst hC dX2_levelOut_19 rfl ?_
    refine q_istore_nA hC (loc' := [(2, .int 0), (0, .ref x0), (1, .ref x1)]) dX2_levelOut_20 rfl (Nat.le_of_ble_eq_true rfl) rfl ?_
    exact c_sub [1, 2, 0] rfl (hJ 1 [.ref x0, .ref x1, .int 0])
  · exact c_no
theorem pX2_levelOut_1 {Γ : CT} (hC : Ctx Γ "SpiritWall$Heights" cX2_levelOut 3 none rmX2_levelOut) (hnt : NT Γ) (J : JT) (hJ : ∀ L a, Cor Γ 3 (lX2_levelOut L a).1 (lX2_levelOut L a).2.1 (lX2_levelOut L a).2.2.1 (lX2_levelOut L a).2.2.2.1 (lX2_levelOut L a).2.2.2.2 (J L a)) (a : List Value) : Cor Γ 3 0 0 21 (List.zip [0, 1, 2] a) [] (bX2_levelOut_1 J a) := by
  unfold bX2_levelOut_1
  split
  · rename_i x0 x1 x2
    refine c_sub [0, 1, 2] rfl (loc' := [(0, .ref x0), (1, .ref x1), (2, .int x2)]) ?_
    refine q_iload_n hC 2 dX2_levelOut_21 rfl rfl ?_
    refine q_bipush hC (v := 12) dX2_levelOut_22 rfl ?_
    refine q_ic_ge hC 38 dX2_levelOut_24 rfl ?_ ?_
    · exact q_vret hC dX2_levelOut_38 (Nat.le_of_ble_eq_true rfl) (Nat.le_of_ble_eq_true rfl)
    · refine q_aload_n hC 0 dX2_levelOut_27 rfl rfl ?_
      refine q_aload_n hC 1 dX2_levelOut_28 rfl rfl ?_
      refine q_cVV hC hnt (stk := []) (as := [.ref x1]) sX2_levelNext (ci := 2) (by decide) rfl nX2_levelNext rfl w_739 w_741 w_742 w_164 w_740 (Nat.le_of_ble_eq_true rfl) dX2_levelOut_29 rfl ?_
      refine q_iincA hC (loc' := [(2, .int (x2 + 1)), (0, .ref x0), (1, .ref x1)]) 2 1 dX2_levelOut_32 rfl rfl (Nat.le_of_ble_eq_true rfl) rfl ?_
      refine q_goto hC 21 dX2_levelOut_35 rfl ?_
      exact c_sub [1, 2, 0] rfl (hJ 1 [.ref x0, .ref x1, .int (x2 + 1)])
  · exact c_no
theorem sX2_levelOut : Snd yX2_levelOut (.code yX2_levelOut cX2_levelOut 3 none) rmX2_levelOut SX2_levelOut := by
  refine Snd.of lX2_levelOut (by decide +kernel) (fun _ => rfl) ?_
  intro Γ hC hnt hnm J hJ L a
  match L with
  | 0 => exact pX2_levelOut_0 hC hnt J hJ a
  | 1 => exact pX2_levelOut_1 hC hnt J hJ a
  | L + 2 => exact c_no
/-! SpiritWall$Heights.meanTold(LSpiritWall$State;I)I -/
theorem dX2_meanTold_0 : decode cX2_meanTold 0 = .ok (.lconst 0, 1) := by decide +kernel
theorem dX2_meanTold_1 : decode cX2_meanTold 1 = .ok (.lstore_n 3, 1) := by decide +kernel
theorem dX2_meanTold_2 : decode cX2_meanTold 2 = .ok (.lconst 0, 1) := by decide +kernel
theorem dX2_meanTold_3 : decode cX2_meanTold 3 = .ok (.lstore 5, 2) := by decide +kernel
theorem dX2_meanTold_5 : decode cX2_meanTold 5 = .ok (.iconst 0, 1) := by decide +kernel
theorem dX2_meanTold_6 : decode cX2_meanTold 6 = .ok (.istore 7, 2) := by decide +kernel
theorem dX2_meanTold_8 : decode cX2_meanTold 8 = .ok (.iload 7, 2) := by decide +kernel
theorem dX2_meanTold_10 : decode cX2_meanTold 10 = .ok (.aload_n 0, 1) := by decide +kernel
theorem dX2_meanTold_11 : decode cX2_meanTold 11 = .ok (.getfield 15, 3) := by decide +kernel
theorem dX2_meanTold_14 : decode cX2_meanTold 14 = .ok (.getfield 96, 3) := by decide +kernel
theorem dX2_meanTold_17 : decode cX2_meanTold 17 = .ok (.if_icmp .ge 74, 3) := by decide +kernel
theorem dX2_meanTold_20 : decode cX2_meanTold 20 = .ok (.aload_n 0, 1) := by decide +kernel
theorem dX2_meanTold_21 : decode cX2_meanTold 21 = .ok (.getfield 15, 3) := by decide +kernel
theorem dX2_meanTold_24 : decode cX2_meanTold 24 = .ok (.iload 7, 2) := by decide +kernel
theorem dX2_meanTold_26 : decode cX2_meanTold 26 = .ok (.iload_n 2, 1) := by decide +kernel
theorem dX2_meanTold_27 : decode cX2_meanTold 27 = .ok (.invokevirtual 99, 3) := by decide +kernel
theorem dX2_meanTold_30 : decode cX2_meanTold 30 = .ok (.istore 8, 2) := by decide +kernel
theorem dX2_meanTold_32 : decode cX2_meanTold 32 = .ok (.iload 8, 2) := by decide +kernel
theorem dX2_meanTold_34 : decode cX2_meanTold 34 = .ok (.iconst (-1), 1) := by decide +kernel
theorem dX2_meanTold_35 : decode cX2_meanTold 35 = .ok (.if_icmp .eq 50, 3) := by decide +kernel
theorem dX2_meanTold_38 : decode cX2_meanTold 38 = .ok (.aload_n 1, 1) := by decide +kernel
theorem dX2_meanTold_39 : decode cX2_meanTold 39 = .ok (.iload 8, 2) := by decide +kernel
theorem dX2_meanTold_41 : decode cX2_meanTold 41 = .ok (.invokevirtual 51, 3) := by decide +kernel
theorem dX2_meanTold_44 : decode cX2_meanTold 44 = .ok (.ifCond .ne 6, 3) := by decide +kernel
theorem dX2_meanTold_47 : decode cX2_meanTold 47 = .ok (.goto 38, 3) := by decide +kernel
theorem dX2_meanTold_50 : decode cX2_meanTold 50 = .ok (.aload_n 0, 1) := by decide +kernel
theorem dX2_meanTold_51 : decode cX2_meanTold 51 = .ok (.getfield 15, 3) := by decide +kernel
theorem dX2_meanTold_54 : decode cX2_meanTold 54 = .ok (.iload 7, 2) := by decide +kernel
theorem dX2_meanTold_56 : decode cX2_meanTold 56 = .ok (.invokevirtual 102, 3) := by decide +kernel
theorem dX2_meanTold_59 : decode cX2_meanTold 59 = .ok (.i2l, 1) := by decide +kernel
theorem dX2_meanTold_60 : decode cX2_meanTold 60 = .ok (.lstore 9, 2) := by decide +kernel
theorem dX2_meanTold_62 : decode cX2_meanTold 62 = .ok (.lload_n 3, 1) := by decide +kernel
theorem dX2_meanTold_63 : decode cX2_meanTold 63 = .ok (.lload 9, 2) := by decide +kernel
theorem dX2_meanTold_65 : decode cX2_meanTold 65 = .ok (.aload_n 0, 1) := by decide +kernel
theorem dX2_meanTold_66 : decode cX2_meanTold 66 = .ok (.aload_n 1, 1) := by decide +kernel
theorem dX2_meanTold_67 : decode cX2_meanTold 67 = .ok (.iload 7, 2) := by decide +kernel
theorem dX2_meanTold_69 : decode cX2_meanTold 69 = .ok (.iload 8, 2) := by decide +kernel
theorem dX2_meanTold_71 : decode cX2_meanTold 71 = .ok (.invokevirtual 70, 3) := by decide +kernel
theorem dX2_meanTold_74 : decode cX2_meanTold 74 = .ok (.i2l, 1) := by decide +kernel
theorem dX2_meanTold_75 : decode cX2_meanTold 75 = .ok (.lmul, 1) := by decide +kernel
theorem dX2_meanTold_76 : decode cX2_meanTold 76 = .ok (.ladd, 1) := by decide +kernel
theorem dX2_meanTold_77 : decode cX2_meanTold 77 = .ok (.lstore_n 3, 1) := by decide +kernel
theorem dX2_meanTold_78 : decode cX2_meanTold 78 = .ok (.lload 5, 2) := by decide +kernel
theorem dX2_meanTold_80 : decode cX2_meanTold 80 = .ok (.lload 9, 2) := by decide +kernel
theorem dX2_meanTold_82 : decode cX2_meanTold 82 = .ok (.ladd, 1) := by decide +kernel
theorem dX2_meanTold_83 : decode cX2_meanTold 83 = .ok (.lstore 5, 2) := by decide +kernel
theorem dX2_meanTold_85 : decode cX2_meanTold 85 = .ok (.iinc 7 1, 3) := by decide +kernel
theorem dX2_meanTold_88 : decode cX2_meanTold 88 = .ok (.goto (-80), 3) := by decide +kernel
theorem dX2_meanTold_91 : decode cX2_meanTold 91 = .ok (.lload 5, 2) := by decide +kernel
theorem dX2_meanTold_93 : decode cX2_meanTold 93 = .ok (.lconst 0, 1) := by decide +kernel
theorem dX2_meanTold_94 : decode cX2_meanTold 94 = .ok (.lcmp, 1) := by decide +kernel
theorem dX2_meanTold_95 : decode cX2_meanTold 95 = .ok (.ifCond .ne 11, 3) := by decide +kernel
theorem dX2_meanTold_98 : decode cX2_meanTold 98 = .ok (.aload_n 1, 1) := by decide +kernel
theorem dX2_meanTold_99 : decode cX2_meanTold 99 = .ok (.iload_n 2, 1) := by decide +kernel
theorem dX2_meanTold_100 : decode cX2_meanTold 100 = .ok (.invokevirtual 78, 3) := by decide +kernel
theorem dX2_meanTold_103 : decode cX2_meanTold 103 = .ok (.goto 10, 3) := by decide +kernel
theorem dX2_meanTold_106 : decode cX2_meanTold 106 = .ok (.lload_n 3, 1) := by decide +kernel
theorem dX2_meanTold_107 : decode cX2_meanTold 107 = .ok (.lload 5, 2) := by decide +kernel
theorem dX2_meanTold_109 : decode cX2_meanTold 109 = .ok (.invokestatic 105, 3) := by decide +kernel
theorem dX2_meanTold_112 : decode cX2_meanTold 112 = .ok (.l2i, 1) := by decide +kernel
theorem dX2_meanTold_113 : decode cX2_meanTold 113 = .ok (.ireturn, 1) := by decide +kernel
def rmX2_meanTold : Room := rmk 10 0 0 236
theorem nX2_meanTold : nameOk yX2_meanTold 2 = true := by decide +kernel
def bX2_meanTold_0 (J : JT) : List Value → Sem
  | [.ref x0, .ref x1, .int x2] =>
    J 1 [.ref x0, .ref x1, .int x2, .long 0, .long 0, .int 0]
  | _ => no
def bX2_meanTold_1 (J : JT) : List Value → Sem
  | [.ref x0, .ref x1, .int x2, .long x3, .long x5, .int x7] =>
    gR 2 0 x0 fun r1 =>
    gI 0 3 r1 fun v2 =>
    br (v2 ≤ x7)
    (br ((lg_cmp x5 0) = 0)
    (ob 6 x1 (cI SX6_heightOf [.ref x1, .int x2] fun v4 =>
    rI v4))
    (cJ SX10_quotient [.long x3, .long x5] fun v3 =>
    rI (v3.toInt32)))
    (gR 2 0 x0 fun r5 =>
    ob 0 r5 (cI SX0_otherEnd [.ref r5, .int x7, .int x2] fun v6 =>
    br (v6 = ((-1) : Int32))
    (J 1 [.ref x0, .ref x1, .int x2, .long x3, .long x5, .int (x7 + 1)])
    (ob 6 x1 (cI SX6_hasHeight [.ref x1, .int v6] fun v7 =>
    br (v7 = 0)
    (J 1 [.ref x0, .ref x1, .int x2, .long x3, .long x5, .int (x7 + 1)])
    (gR 2 0 x0 fun r8 =>
    ob 0 r8 (cI SX0_weightOf [.ref r8, .int x7] fun v9 =>
    lJ (v9.toInt64) fun y9_10 =>
    ob 2 x0 (cI SX2_told [.ref x0, .ref x1, .int x7, .int v6] fun v11 =>
    lJ (x3 + (y9_10 * (v11.toInt64))) fun y3_12 =>
    lJ (x5 + y9_10) fun y5_13 =>
    J 1 [.ref x0, .ref x1, .int x2, .long y3_12, .long y5_13, .int (x7 + 1)])))))))
  | _ => no
def bX2_meanTold (J : JT) : JT := fun L a => match L with
  | 0 => bX2_meanTold_0 J a
  | 1 => bX2_meanTold_1 J a
  | _ => no
def SX2_meanTold : ST := mk 11 bX2_meanTold
def lX2_meanTold (L : Nat) (a : List Value) : Nat × Nat × Nat × List (Nat × Value) × List Value := match L with
  | 0 => (0, 0, 0, lv_args 0 a, [])
  | 1 => (0, 0, 8, List.zip [0, 1, 2, 3, 5, 7] a, [])
  | _ => (0, 0, 0, [], [])
theorem pX2_meanTold_0 {Γ : CT} (hC : Ctx Γ "SpiritWall$Heights" cX2_meanTold 11 (some .int) rmX2_meanTold) (hnt : NT Γ) (J : JT) (hJ : ∀ L a, Cor Γ 11 (lX2_meanTold L a).1 (lX2_meanTold L a).2.1 (lX2_meanTold L a).2.2.1 (lX2_meanTold L a).2.2.2.1 (lX2_meanTold L a).2.2.2.2 (J L a)) (a : List Value) : Cor Γ 11 0 0 0 (lv_args 0 a) [] (bX2_meanTold_0 J a) := by
  unfold bX2_meanTold_0
  split
  · rename_i x0 x1 x2
    refine c_sub [0, 1, 2] rfl (loc' := [(0, .ref x0), (1, .ref x1), (2, .int x2)]) ?_
    refine q_lconst hC (v := 0) dX2_meanTold_0 rfl ?_
    refine q_lstore_nA hC (loc' := [(3, .long 0), (0, .ref x0), (1, .ref x1), (2, .int x2)]) dX2_meanTold_1 rfl (Nat.le_of_ble_eq_true rfl) rfl ?_
    refine q_lconst hC (v := 0) dX2_meanTold_2 rfl ?_
    refine q_lstoreA hC (loc' := [(5, .long 0), (3, .long 0), (0, .ref x0), (1, .ref x1), (2, .int x2)]) dX2_meanTold_3 (Nat.le_of_ble_eq_true rfl) rfl ?_
    refine q_iconst hC dX2_meanTold_5 rfl ?_
    refine q_istoreA hC (loc' := [(7, .int 0), (5, .long 0), (3, .long 0), (0, .ref x0), (1, .ref x1), (2, .int x2)]) dX2_meanTold_6 (Nat.le_of_ble_eq_true rfl) rfl ?_
    exact c_sub [3, 4, 5, 2, 1, 0] rfl (hJ 1 [.ref x0, .ref x1, .int x2, .long 0, .long 0, .int 0])
  · exact c_no
theorem pX2_meanTold_1 {Γ : CT} (hC : Ctx Γ "SpiritWall$Heights" cX2_meanTold 11 (some .int) rmX2_meanTold) (hnt : NT Γ) (J : JT) (hJ : ∀ L a, Cor Γ 11 (lX2_meanTold L a).1 (lX2_meanTold L a).2.1 (lX2_meanTold L a).2.2.1 (lX2_meanTold L a).2.2.2.1 (lX2_meanTold L a).2.2.2.2 (J L a)) (a : List Value) : Cor Γ 11 0 0 8 (List.zip [0, 1, 2, 3, 5, 7] a) [] (bX2_meanTold_1 J a) := by
  unfold bX2_meanTold_1
  split
  · rename_i x0 x1 x2 x3 x5 x7
    refine c_sub [0, 1, 2, 3, 4, 5] rfl (loc' := [(0, .ref x0), (1, .ref x1), (2, .int x2), (3, .long x3), (5, .long x5), (7, .int x7)]) ?_
    refine q_iload hC 5 dX2_meanTold_8 rfl ?_
    refine q_aload_n hC 0 dX2_meanTold_10 rfl rfl ?_
    refine q_getR hC (by decide) (by decide) rfl w_122 dX2_meanTold_11 (fun r1 => ?_)
    refine q_getI hC (by decide) (by decide) rfl w_694 dX2_meanTold_14 (fun v2 => ?_)
    refine q_ic_ge hC 91 dX2_meanTold_17 rfl ?_ ?_
    · refine q_lload hC 4 dX2_meanTold_91 rfl ?_
      refine q_lconst hC (v := 0) dX2_meanTold_93 rfl ?_
      refine q_lcmp hC dX2_meanTold_94 ?_
      refine q_if_ne hC 106 dX2_meanTold_95 rfl ?_ ?_
      · refine q_lload_n hC 3 dX2_meanTold_106 rfl rfl ?_
        refine q_lload hC 4 dX2_meanTold_107 rfl ?_
        refine q_cNJ hC hnt (stk := []) (as := [.long x3, .long x5]) sX10_quotient nX10_quotient rfl w_743 w_360 w_27 w_359 (Nat.le_of_ble_eq_true rfl) dX2_meanTold_109 rfl (fun v3 => ?_)
        refine q_l2i hC dX2_meanTold_112 ?_
        exact q_iret hC dX2_meanTold_113 (Nat.le_of_ble_eq_true rfl) (Nat.le_of_ble_eq_true rfl)
      · refine q_aload_n hC 1 dX2_meanTold_98 rfl rfl ?_
        refine q_iload_n hC 2 dX2_meanTold_99 rfl rfl ?_
        refine q_cVI hC hnt (stk := []) (as := [.int x2]) sX6_heightOf (ci := 6) (by decide) rfl nX6_heightOf rfl w_692 w_612 w_613 w_35 w_611 (Nat.le_of_ble_eq_true rfl) dX2_meanTold_100 rfl (fun v4 => ?_)
        refine q_goto hC 113 dX2_meanTold_103 rfl ?_
        exact q_iret hC dX2_meanTold_113 (Nat.le_of_ble_eq_true rfl) (Nat.le_of_ble_eq_true rfl)
    · refine q_aload_n hC 0 dX2_meanTold_20 rfl rfl ?_
      refine q_getR hC (by decide) (by decide) rfl w_122 dX2_meanTold_21 (fun r5 => ?_)
      refine q_iload hC 5 dX2_meanTold_24 rfl ?_
      refine q_iload_n hC 2 dX2_meanTold_26 rfl rfl ?_
      refine q_cVI hC hnt (stk := []) (as := [.int x7, .int x2]) sX0_otherEnd (ci := 0) (by decide) rfl nX0_otherEnd rfl w_708 w_591 w_592 w_149 w_590 (Nat.le_of_ble_eq_true rfl) dX2_meanTold_27 rfl (fun v6 => ?_)
      refine q_istoreA hC (loc' := [(8, .int v6), (0, .ref x0), (1, .ref x1), (2, .int x2), (3, .long x3), (5, .long x5), (7, .int x7)]) dX2_meanTold_30 (Nat.le_of_ble_eq_true rfl) rfl ?_
      refine q_iload hC 0 dX2_meanTold_32 rfl ?_
      refine q_iconst hC dX2_meanTold_34 rfl ?_
      refine q_ic_eq hC 85 dX2_meanTold_35 rfl ?_ ?_
      · refine q_iincA hC (loc' := [(7, .int (x7 + 1)), (8, .int v6), (0, .ref x0), (1, .ref x1), (2, .int x2), (3, .long x3), (5, .long x5)]) 6 1 dX2_meanTold_85 rfl rfl (Nat.le_of_ble_eq_true rfl) rfl ?_
        refine q_goto hC 8 dX2_meanTold_88 rfl ?_
        exact c_sub [2, 3, 4, 5, 6, 0] rfl (hJ 1 [.ref x0, .ref x1, .int x2, .long x3, .long x5, .int (x7 + 1)])
      · refine q_aload_n hC 2 dX2_meanTold_38 rfl rfl ?_
        refine q_iload hC 0 dX2_meanTold_39 rfl ?_
        refine q_cVI hC hnt (stk := []) (as := [.int v6]) sX6_hasHeight (ci := 6) (by decide) rfl nX6_hasHeight rfl w_698 w_607 w_608 w_35 w_606 (Nat.le_of_ble_eq_true rfl) dX2_meanTold_41 rfl (fun v7 => ?_)
        refine q_if_ne hC 50 dX2_meanTold_44 rfl ?_ ?_
        · refine q_aload_n hC 1 dX2_meanTold_50 rfl rfl ?_
          refine q_getR hC (by decide) (by decide) rfl w_122 dX2_meanTold_51 (fun r8 => ?_)
          refine q_iload hC 6 dX2_meanTold_54 rfl ?_
          refine q_cVI hC hnt (stk := []) (as := [.int x7]) sX0_weightOf (ci := 0) (by decide) rfl nX0_weightOf rfl w_744 w_650 w_651 w_149 w_649 (Nat.le_of_ble_eq_true rfl) dX2_meanTold_56 rfl (fun v9 => ?_)
          refine q_i2l hC dX2_meanTold_59 ?_
          refine q_lstore hC (fun y9_10 => [(9, .long y9_10), (8, .int v6), (0, .ref x0), (1, .ref x1), (2, .int x2), (3, .long x3), (5, .long x5), (7, .int x7)]) dX2_meanTold_60 (Nat.le_of_ble_eq_true rfl) (fun _ => rfl) (fun y9_10 => ?_)
          refine q_lload_n hC 5 dX2_meanTold_62 rfl rfl ?_
          refine q_lload hC 0 dX2_meanTold_63 rfl ?_
          refine q_aload_n hC 2 dX2_meanTold_65 rfl rfl ?_
          refine q_aload_n hC 3 dX2_meanTold_66 rfl rfl ?_
          refine q_iload hC 7 dX2_meanTold_67 rfl ?_
          refine q_iload hC 1 dX2_meanTold_69 rfl ?_
          refine q_cVI hC hnt (stk := [.long y9_10, .long x3]) (as := [.ref x1, .int x7, .int v6]) sX2_told (ci := 2) (by decide) rfl nX2_told rfl w_699 w_701 w_702 w_164 w_700 (Nat.le_of_ble_eq_true rfl) dX2_meanTold_71 rfl (fun v11 => ?_)
          refine q_i2l hC dX2_meanTold_74 ?_
          refine q_lmul hC dX2_meanTold_75 ?_
          refine q_ladd hC dX2_meanTold_76 ?_
          refine q_lstore_n hC (fun y3_12 => [(3, .long y3_12), (9, .long y9_10), (8, .int v6), (0, .ref x0), (1, .ref x1), (2, .int x2), (5, .long x5), (7, .int x7)]) dX2_meanTold_77 rfl (Nat.le_of_ble_eq_true rfl) (fun _ => rfl) (fun y3_12 => ?_)
          refine q_lload hC 6 dX2_meanTold_78 rfl ?_
          refine q_lload hC 1 dX2_meanTold_80 rfl ?_
          refine q_ladd hC dX2_meanTold_82 ?_
          refine q_lstore hC (fun y5_13 => [(5, .long y5_13), (3, .long y3_12), (9, .long y9_10), (8, .int v6), (0, .ref x0), (1, .ref x1), (2, .int x2), (7, .int x7)]) dX2_meanTold_83 (Nat.le_of_ble_eq_true rfl) (fun _ => rfl) (fun y5_13 => ?_)
          refine q_iincA hC (loc' := [(7, .int (x7 + 1)), (5, .long y5_13), (3, .long y3_12), (9, .long y9_10), (8, .int v6), (0, .ref x0), (1, .ref x1), (2, .int x2)]) 7 1 dX2_meanTold_85 rfl rfl (Nat.le_of_ble_eq_true rfl) rfl ?_
          refine q_goto hC 8 dX2_meanTold_88 rfl ?_
          exact c_sub [5, 6, 7, 2, 1, 0] rfl (hJ 1 [.ref x0, .ref x1, .int x2, .long y3_12, .long y5_13, .int (x7 + 1)])
        · refine q_goto hC 85 dX2_meanTold_47 rfl ?_
          refine q_iincA hC (loc' := [(7, .int (x7 + 1)), (8, .int v6), (0, .ref x0), (1, .ref x1), (2, .int x2), (3, .long x3), (5, .long x5)]) 6 1 dX2_meanTold_85 rfl rfl (Nat.le_of_ble_eq_true rfl) rfl ?_
          refine q_goto hC 8 dX2_meanTold_88 rfl ?_
          exact c_sub [2, 3, 4, 5, 6, 0] rfl (hJ 1 [.ref x0, .ref x1, .int x2, .long x3, .long x5, .int (x7 + 1)])
  · exact c_no
theorem sX2_meanTold : Snd yX2_meanTold (.code yX2_meanTold cX2_meanTold 11 (some .int)) rmX2_meanTold SX2_meanTold := by
  refine Snd.of lX2_meanTold (by decide +kernel) (fun _ => rfl) ?_
  intro Γ hC hnt hnm J hJ L a
  match L with
  | 0 => exact pX2_meanTold_0 hC hnt J hJ a
  | 1 => exact pX2_meanTold_1 hC hnt J hJ a
  | L + 2 => exact c_no
/-! SpiritWall$Heights.relaxRound(LSpiritWall$State;)Z -/
theorem dX2_relaxRound_0 : decode cX2_relaxRound 0 = .ok (.iconst 0, 1) := by decide +kernel
theorem dX2_relaxRound_1 : decode cX2_relaxRound 1 = .ok (.istore_n 2, 1) := by decide +kernel
theorem dX2_relaxRound_2 : decode cX2_relaxRound 2 = .ok (.iconst 0, 1) := by decide +kernel
theorem dX2_relaxRound_3 : decode cX2_relaxRound 3 = .ok (.istore_n 3, 1) := by decide +kernel
theorem dX2_relaxRound_4 : decode cX2_relaxRound 4 = .ok (.iload_n 3, 1) := by decide +kernel
theorem dX2_relaxRound_5 : decode cX2_relaxRound 5 = .ok (.aload_n 0, 1) := by decide +kernel
theorem dX2_relaxRound_6 : decode cX2_relaxRound 6 = .ok (.getfield 15, 3) := by decide +kernel
theorem dX2_relaxRound_9 : decode cX2_relaxRound 9 = .ok (.getfield 39, 3) := by decide +kernel
theorem dX2_relaxRound_12 : decode cX2_relaxRound 12 = .ok (.getfield 45, 3) := by decide +kernel
theorem dX2_relaxRound_15 : decode cX2_relaxRound 15 = .ok (.if_icmp .ge 59, 3) := by decide +kernel
theorem dX2_relaxRound_18 : decode cX2_relaxRound 18 = .ok (.aload_n 1, 1) := by decide +kernel
theorem dX2_relaxRound_19 : decode cX2_relaxRound 19 = .ok (.iload_n 3, 1) := by decide +kernel
theorem dX2_relaxRound_20 : decode cX2_relaxRound 20 = .ok (.invokevirtual 89, 3) := by decide +kernel
theorem dX2_relaxRound_23 : decode cX2_relaxRound 23 = .ok (.ifCond .ne 45, 3) := by decide +kernel
theorem dX2_relaxRound_26 : decode cX2_relaxRound 26 = .ok (.aload_n 1, 1) := by decide +kernel
theorem dX2_relaxRound_27 : decode cX2_relaxRound 27 = .ok (.iload_n 3, 1) := by decide +kernel
theorem dX2_relaxRound_28 : decode cX2_relaxRound 28 = .ok (.invokevirtual 51, 3) := by decide +kernel
theorem dX2_relaxRound_31 : decode cX2_relaxRound 31 = .ok (.ifCond .ne 6, 3) := by decide +kernel
theorem dX2_relaxRound_34 : decode cX2_relaxRound 34 = .ok (.goto 34, 3) := by decide +kernel
theorem dX2_relaxRound_37 : decode cX2_relaxRound 37 = .ok (.aload_n 1, 1) := by decide +kernel
theorem dX2_relaxRound_38 : decode cX2_relaxRound 38 = .ok (.iload_n 3, 1) := by decide +kernel
theorem dX2_relaxRound_39 : decode cX2_relaxRound 39 = .ok (.invokevirtual 78, 3) := by decide +kernel
theorem dX2_relaxRound_42 : decode cX2_relaxRound 42 = .ok (.istore 4, 2) := by decide +kernel
theorem dX2_relaxRound_44 : decode cX2_relaxRound 44 = .ok (.aload_n 0, 1) := by decide +kernel
theorem dX2_relaxRound_45 : decode cX2_relaxRound 45 = .ok (.aload_n 1, 1) := by decide +kernel
theorem dX2_relaxRound_46 : decode cX2_relaxRound 46 = .ok (.iload_n 3, 1) := by decide +kernel
theorem dX2_relaxRound_47 : decode cX2_relaxRound 47 = .ok (.invokevirtual 92, 3) := by decide +kernel
theorem dX2_relaxRound_50 : decode cX2_relaxRound 50 = .ok (.istore 5, 2) := by decide +kernel
theorem dX2_relaxRound_52 : decode cX2_relaxRound 52 = .ok (.aload_n 1, 1) := by decide +kernel
theorem dX2_relaxRound_53 : decode cX2_relaxRound 53 = .ok (.iload_n 3, 1) := by decide +kernel
theorem dX2_relaxRound_54 : decode cX2_relaxRound 54 = .ok (.iload 5, 2) := by decide +kernel
theorem dX2_relaxRound_56 : decode cX2_relaxRound 56 = .ok (.invokevirtual 74, 3) := by decide +kernel
theorem dX2_relaxRound_59 : decode cX2_relaxRound 59 = .ok (.iload 5, 2) := by decide +kernel
theorem dX2_relaxRound_61 : decode cX2_relaxRound 61 = .ok (.iload 4, 2) := by decide +kernel
theorem dX2_relaxRound_63 : decode cX2_relaxRound 63 = .ok (.if_icmp .eq 5, 3) := by decide +kernel
theorem dX2_relaxRound_66 : decode cX2_relaxRound 66 = .ok (.iconst 1, 1) := by decide +kernel
theorem dX2_relaxRound_67 : decode cX2_relaxRound 67 = .ok (.istore_n 2, 1) := by decide +kernel
theorem dX2_relaxRound_68 : decode cX2_relaxRound 68 = .ok (.iinc 3 1, 3) := by decide +kernel
theorem dX2_relaxRound_71 : decode cX2_relaxRound 71 = .ok (.goto (-67), 3) := by decide +kernel
theorem dX2_relaxRound_74 : decode cX2_relaxRound 74 = .ok (.iload_n 2, 1) := by decide +kernel
theorem dX2_relaxRound_75 : decode cX2_relaxRound 75 = .ok (.ireturn, 1) := by decide +kernel
def rmX2_relaxRound : Room := rmk 11 0 0 266
theorem nX2_relaxRound : nameOk yX2_relaxRound 1 = true := by decide +kernel
def bX2_relaxRound_0 (J : JT) : List Value → Sem
  | [.ref x0, .ref x1] =>
    J 1 [.ref x0, .ref x1, .int 0, .int 0]
  | _ => no
def bX2_relaxRound_1 (J : JT) : List Value → Sem
  | [.ref x0, .ref x1, .int x2, .int x3] =>
    gR 2 0 x0 fun r1 =>
    gR 0 0 r1 fun r2 =>
    gI 9 0 r2 fun v3 =>
    br (v3 ≤ x3)
    (rZ x2)
    (ob 6 x1 (cI SX6_isBench [.ref x1, .int x3] fun v4 =>
    br (v4 = 0)
    (ob 6 x1 (cI SX6_hasHeight [.ref x1, .int x3] fun v5 =>
    br (v5 = 0)
    (J 1 [.ref x0, .ref x1, .int x2, .int (x3 + 1)])
    (ob 6 x1 (cI SX6_heightOf [.ref x1, .int x3] fun v6 =>
    ob 2 x0 (cI SX2_meanTold [.ref x0, .ref x1, .int x3] fun v7 =>
    ob 6 x1 (cV SX6_putHeight [.ref x1, .int x3, .int v7] <|
    br (v7 = v6)
    (J 1 [.ref x0, .ref x1, .int x2, .int (x3 + 1)])
    (J 1 [.ref x0, .ref x1, .int 1, .int (x3 + 1)])))))))
    (J 1 [.ref x0, .ref x1, .int x2, .int (x3 + 1)])))
  | _ => no
def bX2_relaxRound (J : JT) : JT := fun L a => match L with
  | 0 => bX2_relaxRound_0 J a
  | 1 => bX2_relaxRound_1 J a
  | _ => no
def SX2_relaxRound : ST := mk 6 bX2_relaxRound
def lX2_relaxRound (L : Nat) (a : List Value) : Nat × Nat × Nat × List (Nat × Value) × List Value := match L with
  | 0 => (0, 0, 0, lv_args 0 a, [])
  | 1 => (0, 0, 4, List.zip [0, 1, 2, 3] a, [])
  | _ => (0, 0, 0, [], [])
theorem pX2_relaxRound_0 {Γ : CT} (hC : Ctx Γ "SpiritWall$Heights" cX2_relaxRound 6 (some .boolean) rmX2_relaxRound) (hnt : NT Γ) (J : JT) (hJ : ∀ L a, Cor Γ 6 (lX2_relaxRound L a).1 (lX2_relaxRound L a).2.1 (lX2_relaxRound L a).2.2.1 (lX2_relaxRound L a).2.2.2.1 (lX2_relaxRound L a).2.2.2.2 (J L a)) (a : List Value) : Cor Γ 6 0 0 0 (lv_args 0 a) [] (bX2_relaxRound_0 J a) := by
  unfold bX2_relaxRound_0
  split
  · rename_i x0 x1
    refine c_sub [0, 1] rfl (loc' := [(0, .ref x0), (1, .ref x1)]) ?_
    refine q_iconst hC dX2_relaxRound_0 rfl ?_
    refine q_istore_nA hC (loc' := [(2, .int 0), (0, .ref x0), (1, .ref x1)]) dX2_relaxRound_1 rfl (Nat.le_of_ble_eq_true rfl) rfl ?_
    refine q_iconst hC dX2_relaxRound_2 rfl ?_
    refine q_istore_nA hC (loc' := [(3, .int 0), (2, .int 0), (0, .ref x0), (1, .ref x1)]) dX2_relaxRound_3 rfl (Nat.le_of_ble_eq_true rfl) rfl ?_
    exact c_sub [2, 3, 1, 0] rfl (hJ 1 [.ref x0, .ref x1, .int 0, .int 0])
  · exact c_no
theorem pX2_relaxRound_1 {Γ : CT} (hC : Ctx Γ "SpiritWall$Heights" cX2_relaxRound 6 (some .boolean) rmX2_relaxRound) (hnt : NT Γ) (J : JT) (hJ : ∀ L a, Cor Γ 6 (lX2_relaxRound L a).1 (lX2_relaxRound L a).2.1 (lX2_relaxRound L a).2.2.1 (lX2_relaxRound L a).2.2.2.1 (lX2_relaxRound L a).2.2.2.2 (J L a)) (a : List Value) : Cor Γ 6 0 0 4 (List.zip [0, 1, 2, 3] a) [] (bX2_relaxRound_1 J a) := by
  unfold bX2_relaxRound_1
  split
  · rename_i x0 x1 x2 x3
    refine c_sub [0, 1, 2, 3] rfl (loc' := [(0, .ref x0), (1, .ref x1), (2, .int x2), (3, .int x3)]) ?_
    refine q_iload_n hC 3 dX2_relaxRound_4 rfl rfl ?_
    refine q_aload_n hC 0 dX2_relaxRound_5 rfl rfl ?_
    refine q_getR hC (by decide) (by decide) rfl w_122 dX2_relaxRound_6 (fun r1 => ?_)
    refine q_getR hC (by decide) (by decide) rfl w_729 dX2_relaxRound_9 (fun r2 => ?_)
    refine q_getI hC (by decide) (by decide) rfl w_730 dX2_relaxRound_12 (fun v3 => ?_)
    refine q_ic_ge hC 74 dX2_relaxRound_15 rfl ?_ ?_
    · refine q_iload_n hC 2 dX2_relaxRound_74 rfl rfl ?_
      exact q_zret hC dX2_relaxRound_75 (Nat.le_of_ble_eq_true rfl) (Nat.le_of_ble_eq_true rfl)
    · refine q_aload_n hC 1 dX2_relaxRound_18 rfl rfl ?_
      refine q_iload_n hC 3 dX2_relaxRound_19 rfl rfl ?_
      refine q_cVI hC hnt (stk := []) (as := [.int x3]) sX6_isBench (ci := 6) (by decide) rfl nX6_isBench rfl w_745 w_616 w_617 w_35 w_615 (Nat.le_of_ble_eq_true rfl) dX2_relaxRound_20 rfl (fun v4 => ?_)
      refine q_if_ne hC 68 dX2_relaxRound_23 rfl ?_ ?_
      · refine q_iincA hC (loc' := [(3, .int (x3 + 1)), (0, .ref x0), (1, .ref x1), (2, .int x2)]) 3 1 dX2_relaxRound_68 rfl rfl (Nat.le_of_ble_eq_true rfl) rfl ?_
        refine q_goto hC 4 dX2_relaxRound_71 rfl ?_
        exact c_sub [1, 2, 3, 0] rfl (hJ 1 [.ref x0, .ref x1, .int x2, .int (x3 + 1)])
      · refine q_aload_n hC 1 dX2_relaxRound_26 rfl rfl ?_
        refine q_iload_n hC 3 dX2_relaxRound_27 rfl rfl ?_
        refine q_cVI hC hnt (stk := []) (as := [.int x3]) sX6_hasHeight (ci := 6) (by decide) rfl nX6_hasHeight rfl w_698 w_607 w_608 w_35 w_606 (Nat.le_of_ble_eq_true rfl) dX2_relaxRound_28 rfl (fun v5 => ?_)
        refine q_if_ne hC 37 dX2_relaxRound_31 rfl ?_ ?_
        · refine q_aload_n hC 1 dX2_relaxRound_37 rfl rfl ?_
          refine q_iload_n hC 3 dX2_relaxRound_38 rfl rfl ?_
          refine q_cVI hC hnt (stk := []) (as := [.int x3]) sX6_heightOf (ci := 6) (by decide) rfl nX6_heightOf rfl w_692 w_612 w_613 w_35 w_611 (Nat.le_of_ble_eq_true rfl) dX2_relaxRound_39 rfl (fun v6 => ?_)
          refine q_istoreA hC (loc' := [(4, .int v6), (0, .ref x0), (1, .ref x1), (2, .int x2), (3, .int x3)]) dX2_relaxRound_42 (Nat.le_of_ble_eq_true rfl) rfl ?_
          refine q_aload_n hC 1 dX2_relaxRound_44 rfl rfl ?_
          refine q_aload_n hC 2 dX2_relaxRound_45 rfl rfl ?_
          refine q_iload_n hC 4 dX2_relaxRound_46 rfl rfl ?_
          refine q_cVI hC hnt (stk := []) (as := [.ref x1, .int x3]) sX2_meanTold (ci := 2) (by decide) rfl nX2_meanTold rfl w_746 w_748 w_749 w_164 w_747 (Nat.le_of_ble_eq_true rfl) dX2_relaxRound_47 rfl (fun v7 => ?_)
          refine q_istoreA hC (loc' := [(5, .int v7), (4, .int v6), (0, .ref x0), (1, .ref x1), (2, .int x2), (3, .int x3)]) dX2_relaxRound_50 (Nat.le_of_ble_eq_true rfl) rfl ?_
          refine q_aload_n hC 3 dX2_relaxRound_52 rfl rfl ?_
          refine q_iload_n hC 5 dX2_relaxRound_53 rfl rfl ?_
          refine q_iload hC 0 dX2_relaxRound_54 rfl ?_
          refine q_cVV hC hnt (stk := []) (as := [.int x3, .int v7]) sX6_putHeight (ci := 6) (by decide) rfl nX6_putHeight rfl w_733 w_249 w_250 w_35 w_248 (Nat.le_of_ble_eq_true rfl) dX2_relaxRound_56 rfl ?_
          refine q_iload hC 0 dX2_relaxRound_59 rfl ?_
          refine q_iload hC 1 dX2_relaxRound_61 rfl ?_
          refine q_ic_eq hC 68 dX2_relaxRound_63 rfl ?_ ?_
          · refine q_iincA hC (loc' := [(3, .int (x3 + 1)), (5, .int v7), (4, .int v6), (0, .ref x0), (1, .ref x1), (2, .int x2)]) 5 1 dX2_relaxRound_68 rfl rfl (Nat.le_of_ble_eq_true rfl) rfl ?_
            refine q_goto hC 4 dX2_relaxRound_71 rfl ?_
            exact c_sub [3, 4, 5, 0] rfl (hJ 1 [.ref x0, .ref x1, .int x2, .int (x3 + 1)])
          · refine q_iconst hC dX2_relaxRound_66 rfl ?_
            refine q_istore_nA hC (loc' := [(2, .int 1), (5, .int v7), (4, .int v6), (0, .ref x0), (1, .ref x1), (3, .int x3)]) dX2_relaxRound_67 rfl (Nat.le_of_ble_eq_true rfl) rfl ?_
            refine q_iincA hC (loc' := [(3, .int (x3 + 1)), (2, .int 1), (5, .int v7), (4, .int v6), (0, .ref x0), (1, .ref x1)]) 5 1 dX2_relaxRound_68 rfl rfl (Nat.le_of_ble_eq_true rfl) rfl ?_
            refine q_goto hC 4 dX2_relaxRound_71 rfl ?_
            exact c_sub [4, 5, 1, 0] rfl (hJ 1 [.ref x0, .ref x1, .int 1, .int (x3 + 1)])
        · refine q_goto hC 68 dX2_relaxRound_34 rfl ?_
          refine q_iincA hC (loc' := [(3, .int (x3 + 1)), (0, .ref x0), (1, .ref x1), (2, .int x2)]) 3 1 dX2_relaxRound_68 rfl rfl (Nat.le_of_ble_eq_true rfl) rfl ?_
          refine q_goto hC 4 dX2_relaxRound_71 rfl ?_
          exact c_sub [1, 2, 3, 0] rfl (hJ 1 [.ref x0, .ref x1, .int x2, .int (x3 + 1)])
  · exact c_no
theorem sX2_relaxRound : Snd yX2_relaxRound (.code yX2_relaxRound cX2_relaxRound 6 (some .boolean)) rmX2_relaxRound SX2_relaxRound := by
  refine Snd.of lX2_relaxRound (by decide +kernel) (fun _ => rfl) ?_
  intro Γ hC hnt hnm J hJ L a
  match L with
  | 0 => exact pX2_relaxRound_0 hC hnt J hJ a
  | 1 => exact pX2_relaxRound_1 hC hnt J hJ a
  | L + 2 => exact c_no
/-! SpiritWall$Heights.relaxBy(LSpiritWall$State;I)I -/
theorem dX2_relaxBy_0 : decode cX2_relaxBy 0 = .ok (.iconst 0, 1) := by decide +kernel
theorem dX2_relaxBy_1 : decode cX2_relaxBy 1 = .ok (.istore_n 3, 1) := by decide +kernel
theorem dX2_relaxBy_2 : decode cX2_relaxBy 2 = .ok (.iconst 0, 1) := by decide +kernel
theorem dX2_relaxBy_3 : decode cX2_relaxBy 3 = .ok (.istore 4, 2) := by decide +kernel
theorem dX2_relaxBy_5 : decode cX2_relaxBy 5 = .ok (.iload 4, 2) := by decide +kernel
theorem dX2_relaxBy_7 : decode cX2_relaxBy 7 = .ok (.iload_n 2, 1) := by decide +kernel
theorem dX2_relaxBy_8 : decode cX2_relaxBy 8 = .ok (.if_icmp .ge 22, 3) := by decide +kernel
theorem dX2_relaxBy_11 : decode cX2_relaxBy 11 = .ok (.aload_n 0, 1) := by decide +kernel
theorem dX2_relaxBy_12 : decode cX2_relaxBy 12 = .ok (.aload_n 1, 1) := by decide +kernel
theorem dX2_relaxBy_13 : decode cX2_relaxBy 13 = .ok (.invokevirtual 85, 3) := by decide +kernel
theorem dX2_relaxBy_16 : decode cX2_relaxBy 16 = .ok (.ifCond .ne 5, 3) := by decide +kernel
theorem dX2_relaxBy_19 : decode cX2_relaxBy 19 = .ok (.iload_n 3, 1) := by decide +kernel
theorem dX2_relaxBy_20 : decode cX2_relaxBy 20 = .ok (.ireturn, 1) := by decide +kernel
theorem dX2_relaxBy_21 : decode cX2_relaxBy 21 = .ok (.iinc 3 1, 3) := by decide +kernel
theorem dX2_relaxBy_24 : decode cX2_relaxBy 24 = .ok (.iinc 4 1, 3) := by decide +kernel
theorem dX2_relaxBy_27 : decode cX2_relaxBy 27 = .ok (.goto (-22), 3) := by decide +kernel
theorem dX2_relaxBy_30 : decode cX2_relaxBy 30 = .ok (.iload_n 3, 1) := by decide +kernel
theorem dX2_relaxBy_31 : decode cX2_relaxBy 31 = .ok (.ireturn, 1) := by decide +kernel
def rmX2_relaxBy : Room := rmk 12 0 0 291
theorem nX2_relaxBy : nameOk yX2_relaxBy 2 = true := by decide +kernel
def bX2_relaxBy_0 (J : JT) : List Value → Sem
  | [.ref x0, .ref x1, .int x2] =>
    J 1 [.ref x0, .ref x1, .int x2, .int 0, .int 0]
  | _ => no
def bX2_relaxBy_1 (J : JT) : List Value → Sem
  | [.ref x0, .ref x1, .int x2, .int x3, .int x4] =>
    br (x2 ≤ x4)
    (rI x3)
    (ob 2 x0 (cI SX2_relaxRound [.ref x0, .ref x1] fun v1 =>
    br (v1 = 0)
    (rI x3)
    (J 1 [.ref x0, .ref x1, .int x2, .int (x3 + 1), .int (x4 + 1)])))
  | _ => no
def bX2_relaxBy (J : JT) : JT := fun L a => match L with
  | 0 => bX2_relaxBy_0 J a
  | 1 => bX2_relaxBy_1 J a
  | _ => no
def SX2_relaxBy : ST := mk 5 bX2_relaxBy
def lX2_relaxBy (L : Nat) (a : List Value) : Nat × Nat × Nat × List (Nat × Value) × List Value := match L with
  | 0 => (0, 0, 0, lv_args 0 a, [])
  | 1 => (0, 0, 5, List.zip [0, 1, 2, 3, 4] a, [])
  | _ => (0, 0, 0, [], [])
theorem pX2_relaxBy_0 {Γ : CT} (hC : Ctx Γ "SpiritWall$Heights" cX2_relaxBy 5 (some .int) rmX2_relaxBy) (hnt : NT Γ) (J : JT) (hJ : ∀ L a, Cor Γ 5 (lX2_relaxBy L a).1 (lX2_relaxBy L a).2.1 (lX2_relaxBy L a).2.2.1 (lX2_relaxBy L a).2.2.2.1 (lX2_relaxBy L a).2.2.2.2 (J L a)) (a : List Value) : Cor Γ 5 0 0 0 (lv_args 0 a) [] (bX2_relaxBy_0 J a) := by
  unfold bX2_relaxBy_0
  split
  · rename_i x0 x1 x2
    refine c_sub [0, 1, 2] rfl (loc' := [(0, .ref x0), (1, .ref x1), (2, .int x2)]) ?_
    refine q_iconst hC dX2_relaxBy_0 rfl ?_
    refine q_istore_nA hC (loc' := [(3, .int 0), (0, .ref x0), (1, .ref x1), (2, .int x2)]) dX2_relaxBy_1 rfl (Nat.le_of_ble_eq_true rfl) rfl ?_
    refine q_iconst hC dX2_relaxBy_2 rfl ?_
    refine q_istoreA hC (loc' := [(4, .int 0), (3, .int 0), (0, .ref x0), (1, .ref x1), (2, .int x2)]) dX2_relaxBy_3 (Nat.le_of_ble_eq_true rfl) rfl ?_
    exact c_sub [2, 3, 4, 1, 0] rfl (hJ 1 [.ref x0, .ref x1, .int x2, .int 0, .int 0])
  · exact c_no
theorem pX2_relaxBy_1 {Γ : CT} (hC : Ctx Γ "SpiritWall$Heights" cX2_relaxBy 5 (some .int) rmX2_relaxBy) (hnt : NT Γ) (J : JT) (hJ : ∀ L a, Cor Γ 5 (lX2_relaxBy L a).1 (lX2_relaxBy L a).2.1 (lX2_relaxBy L a).2.2.1 (lX2_relaxBy L a).2.2.2.1 (lX2_relaxBy L a).2.2.2.2 (J L a)) (a : List Value) : Cor Γ 5 0 0 5 (List.zip [0, 1, 2, 3, 4] a) [] (bX2_relaxBy_1 J a) := by
  unfold bX2_relaxBy_1
  split
  · rename_i x0 x1 x2 x3 x4
    refine c_sub [0, 1, 2, 3, 4] rfl (loc' := [(0, .ref x0), (1, .ref x1), (2, .int x2), (3, .int x3), (4, .int x4)]) ?_
    refine q_iload hC 4 dX2_relaxBy_5 rfl ?_
    refine q_iload_n hC 2 dX2_relaxBy_7 rfl rfl ?_
    refine q_ic_ge hC 30 dX2_relaxBy_8 rfl ?_ ?_
    · refine q_iload_n hC 3 dX2_relaxBy_30 rfl rfl ?_
      exact q_iret hC dX2_relaxBy_31 (Nat.le_of_ble_eq_true rfl) (Nat.le_of_ble_eq_true rfl)
    · refine q_aload_n hC 0 dX2_relaxBy_11 rfl rfl ?_
      refine q_aload_n hC 1 dX2_relaxBy_12 rfl rfl ?_
      refine q_cVI hC hnt (stk := []) (as := [.ref x1]) sX2_relaxRound (ci := 2) (by decide) rfl nX2_relaxRound rfl w_750 w_752 w_753 w_164 w_751 (Nat.le_of_ble_eq_true rfl) dX2_relaxBy_13 rfl (fun v1 => ?_)
      refine q_if_ne hC 21 dX2_relaxBy_16 rfl ?_ ?_
      · refine q_iincA hC (loc' := [(3, .int (x3 + 1)), (0, .ref x0), (1, .ref x1), (2, .int x2), (4, .int x4)]) 3 1 dX2_relaxBy_21 rfl rfl (Nat.le_of_ble_eq_true rfl) rfl ?_
        refine q_iincA hC (loc' := [(4, .int (x4 + 1)), (3, .int (x3 + 1)), (0, .ref x0), (1, .ref x1), (2, .int x2)]) 4 1 dX2_relaxBy_24 rfl rfl (Nat.le_of_ble_eq_true rfl) rfl ?_
        refine q_goto hC 5 dX2_relaxBy_27 rfl ?_
        exact c_sub [2, 3, 4, 1, 0] rfl (hJ 1 [.ref x0, .ref x1, .int x2, .int (x3 + 1), .int (x4 + 1)])
      · refine q_iload_n hC 3 dX2_relaxBy_19 rfl rfl ?_
        exact q_iret hC dX2_relaxBy_20 (Nat.le_of_ble_eq_true rfl) (Nat.le_of_ble_eq_true rfl)
  · exact c_no
theorem sX2_relaxBy : Snd yX2_relaxBy (.code yX2_relaxBy cX2_relaxBy 5 (some .int)) rmX2_relaxBy SX2_relaxBy := by
  refine Snd.of lX2_relaxBy (by decide +kernel) (fun _ => rfl) ?_
  intro Γ hC hnt hnm J hJ L a
  match L with
  | 0 => exact pX2_relaxBy_0 hC hnt J hJ a
  | 1 => exact pX2_relaxBy_1 hC hnt J hJ a
  | L + 2 => exact c_no
/-! SpiritWall.misfitAfter(I)J -/
theorem dX10_misfitAfter_0 : decode cX10_misfitAfter 0 = .ok (.iload_n 1, 1) := by decide +kernel
theorem dX10_misfitAfter_1 : decode cX10_misfitAfter 1 = .ok (.iconst 0, 1) := by decide +kernel
theorem dX10_misfitAfter_2 : decode cX10_misfitAfter 2 = .ok (.bipush 50, 2) := by decide +kernel
theorem dX10_misfitAfter_4 : decode cX10_misfitAfter 4 = .ok (.invokestatic 260, 3) := by decide +kernel
theorem dX10_misfitAfter_7 : decode cX10_misfitAfter 7 = .ok (.aload_n 0, 1) := by decide +kernel
theorem dX10_misfitAfter_8 : decode cX10_misfitAfter 8 = .ok (.getfield 35, 3) := by decide +kernel
theorem dX10_misfitAfter_11 : decode cX10_misfitAfter 11 = .ok (.aload_n 0, 1) := by decide +kernel
theorem dX10_misfitAfter_12 : decode cX10_misfitAfter 12 = .ok (.getfield 31, 3) := by decide +kernel
theorem dX10_misfitAfter_15 : decode cX10_misfitAfter 15 = .ok (.invokevirtual 126, 3) := by decide +kernel
theorem dX10_misfitAfter_18 : decode cX10_misfitAfter 18 = .ok (.aload_n 0, 1) := by decide +kernel
theorem dX10_misfitAfter_19 : decode cX10_misfitAfter 19 = .ok (.getfield 62, 3) := by decide +kernel
theorem dX10_misfitAfter_22 : decode cX10_misfitAfter 22 = .ok (.aload_n 0, 1) := by decide +kernel
theorem dX10_misfitAfter_23 : decode cX10_misfitAfter 23 = .ok (.getfield 35, 3) := by decide +kernel
theorem dX10_misfitAfter_26 : decode cX10_misfitAfter 26 = .ok (.invokevirtual 164, 3) := by decide +kernel
theorem dX10_misfitAfter_29 : decode cX10_misfitAfter 29 = .ok (.aload_n 0, 1) := by decide +kernel
theorem dX10_misfitAfter_30 : decode cX10_misfitAfter 30 = .ok (.getfield 87, 3) := by decide +kernel
theorem dX10_misfitAfter_33 : decode cX10_misfitAfter 33 = .ok (.aload_n 0, 1) := by decide +kernel
theorem dX10_misfitAfter_34 : decode cX10_misfitAfter 34 = .ok (.getfield 35, 3) := by decide +kernel
theorem dX10_misfitAfter_37 : decode cX10_misfitAfter 37 = .ok (.invokevirtual 353, 3) := by decide +kernel
theorem dX10_misfitAfter_40 : decode cX10_misfitAfter 40 = .ok (.aload_n 0, 1) := by decide +kernel
theorem dX10_misfitAfter_41 : decode cX10_misfitAfter 41 = .ok (.getfield 87, 3) := by decide +kernel
theorem dX10_misfitAfter_44 : decode cX10_misfitAfter 44 = .ok (.aload_n 0, 1) := by decide +kernel
theorem dX10_misfitAfter_45 : decode cX10_misfitAfter 45 = .ok (.getfield 35, 3) := by decide +kernel
theorem dX10_misfitAfter_48 : decode cX10_misfitAfter 48 = .ok (.iload_n 1, 1) := by decide +kernel
theorem dX10_misfitAfter_49 : decode cX10_misfitAfter 49 = .ok (.invokevirtual 356, 3) := by decide +kernel
theorem dX10_misfitAfter_52 : decode cX10_misfitAfter 52 = .ok (.pop, 1) := by decide +kernel
theorem dX10_misfitAfter_53 : decode cX10_misfitAfter 53 = .ok (.aload_n 0, 1) := by decide +kernel
theorem dX10_misfitAfter_54 : decode cX10_misfitAfter 54 = .ok (.getfield 87, 3) := by decide +kernel
theorem dX10_misfitAfter_57 : decode cX10_misfitAfter 57 = .ok (.aload_n 0, 1) := by decide +kernel
theorem dX10_misfitAfter_58 : decode cX10_misfitAfter 58 = .ok (.getfield 35, 3) := by decide +kernel
theorem dX10_misfitAfter_61 : decode cX10_misfitAfter 61 = .ok (.invokevirtual 329, 3) := by decide +kernel
theorem dX10_misfitAfter_64 : decode cX10_misfitAfter 64 = .ok (.lreturn, 1) := by decide +kernel
def rmX10_misfitAfter : Room := rmk 13 1 6 315
theorem nX10_misfitAfter : nameOk yX10_misfitAfter 1 = true := by decide +kernel
def bX10_misfitAfter_0 (J : JT) : List Value → Sem
  | [.ref x0, .int x1] =>
    cV SX10_needRange [.int x1, .int 0, .int 50] <|
    gR 10 4 x0 fun r1 =>
    gR 10 3 x0 fun r2 =>
    ob 6 r1 (cV SX6_copyFrom [.ref r1, .ref r2] <|
    gR 10 8 x0 fun r3 =>
    gR 10 4 x0 fun r4 =>
    ob 0 r3 (cV SX0_measure [.ref r3, .ref r4] <|
    gR 10 11 x0 fun r5 =>
    gR 10 4 x0 fun r6 =>
    ob 2 r5 (cV SX2_levelOut [.ref r5, .ref r6] <|
    gR 10 11 x0 fun r7 =>
    gR 10 4 x0 fun r8 =>
    ob 2 r7 (cI SX2_relaxBy [.ref r7, .ref r8, .int x1] fun v9 =>
    gR 10 11 x0 fun r10 =>
    gR 10 4 x0 fun r11 =>
    ob 2 r10 (cJ SX2_misfitOf [.ref r10, .ref r11] fun v12 =>
    rJ v12)))))
  | _ => no
def bX10_misfitAfter (J : JT) : JT := fun L a => match L with
  | 0 => bX10_misfitAfter_0 J a
  | _ => no
def SX10_misfitAfter : ST := mk 2 bX10_misfitAfter
def lX10_misfitAfter (L : Nat) (a : List Value) : Nat × Nat × Nat × List (Nat × Value) × List Value := match L with
  | 0 => (0, 0, 0, lv_args 0 a, [])
  | _ => (0, 0, 0, [], [])
theorem pX10_misfitAfter_0 {Γ : CT} (hC : Ctx Γ "SpiritWall" cX10_misfitAfter 2 (some .long) rmX10_misfitAfter) (hnt : NT Γ) (J : JT) (hJ : ∀ L a, Cor Γ 2 (lX10_misfitAfter L a).1 (lX10_misfitAfter L a).2.1 (lX10_misfitAfter L a).2.2.1 (lX10_misfitAfter L a).2.2.2.1 (lX10_misfitAfter L a).2.2.2.2 (J L a)) (a : List Value) : Cor Γ 2 0 0 0 (lv_args 0 a) [] (bX10_misfitAfter_0 J a) := by
  unfold bX10_misfitAfter_0
  split
  · rename_i x0 x1
    refine c_sub [0, 1] rfl (loc' := [(0, .ref x0), (1, .int x1)]) ?_
    refine q_iload_n hC 1 dX10_misfitAfter_0 rfl rfl ?_
    refine q_iconst hC dX10_misfitAfter_1 rfl ?_
    refine q_bipush hC (v := 50) dX10_misfitAfter_2 rfl ?_
    refine q_cSV hC hnt (stk := []) (as := [.int x1, .int 0, .int 50]) sX10_needRange nX10_needRange rfl w_643 w_645 w_27 w_644 (Nat.le_of_ble_eq_true rfl) dX10_misfitAfter_4 rfl ?_
    refine q_aload_n hC 0 dX10_misfitAfter_7 rfl rfl ?_
    refine q_getR hC (by decide) (by decide) rfl w_134 dX10_misfitAfter_8 (fun r1 => ?_)
    refine q_aload_n hC 0 dX10_misfitAfter_11 rfl rfl ?_
    refine q_getR hC (by decide) (by decide) rfl w_133 dX10_misfitAfter_12 (fun r2 => ?_)
    refine q_cVV hC hnt (stk := []) (as := [.ref r2]) sX6_copyFrom (ci := 6) (by decide) rfl nX6_copyFrom rfl w_341 w_343 w_344 w_35 w_342 (Nat.le_of_ble_eq_true rfl) dX10_misfitAfter_15 rfl ?_
    refine q_aload_n hC 0 dX10_misfitAfter_18 rfl rfl ?_
    refine q_getR hC (by decide) (by decide) rfl w_150 dX10_misfitAfter_19 (fun r3 => ?_)
    refine q_aload_n hC 0 dX10_misfitAfter_22 rfl rfl ?_
    refine q_getR hC (by decide) (by decide) rfl w_134 dX10_misfitAfter_23 (fun r4 => ?_)
    refine q_cVV hC hnt (stk := []) (as := [.ref r4]) sX0_measure (ci := 0) (by decide) rfl nX0_measure rfl w_536 w_538 w_539 w_149 w_537 (Nat.le_of_ble_eq_true rfl) dX10_misfitAfter_26 rfl ?_
    refine q_aload_n hC 0 dX10_misfitAfter_29 rfl rfl ?_
    refine q_getR hC (by decide) (by decide) rfl w_165 dX10_misfitAfter_30 (fun r5 => ?_)
    refine q_aload_n hC 0 dX10_misfitAfter_33 rfl rfl ?_
    refine q_getR hC (by decide) (by decide) rfl w_134 dX10_misfitAfter_34 (fun r6 => ?_)
    refine q_cVV hC hnt (stk := []) (as := [.ref r6]) sX2_levelOut (ci := 2) (by decide) rfl nX2_levelOut rfl w_754 w_756 w_757 w_164 w_755 (Nat.le_of_ble_eq_true rfl) dX10_misfitAfter_37 rfl ?_
    refine q_aload_n hC 0 dX10_misfitAfter_40 rfl rfl ?_
    refine q_getR hC (by decide) (by decide) rfl w_165 dX10_misfitAfter_41 (fun r7 => ?_)
    refine q_aload_n hC 0 dX10_misfitAfter_44 rfl rfl ?_
    refine q_getR hC (by decide) (by decide) rfl w_134 dX10_misfitAfter_45 (fun r8 => ?_)
    refine q_iload_n hC 1 dX10_misfitAfter_48 rfl rfl ?_
    refine q_cVI hC hnt (stk := []) (as := [.ref r8, .int x1]) sX2_relaxBy (ci := 2) (by decide) rfl nX2_relaxBy rfl w_758 w_760 w_761 w_164 w_759 (Nat.le_of_ble_eq_true rfl) dX10_misfitAfter_49 rfl (fun v9 => ?_)
    refine q_popI hC dX10_misfitAfter_52 ?_
    refine q_aload_n hC 0 dX10_misfitAfter_53 rfl rfl ?_
    refine q_getR hC (by decide) (by decide) rfl w_165 dX10_misfitAfter_54 (fun r10 => ?_)
    refine q_aload_n hC 0 dX10_misfitAfter_57 rfl rfl ?_
    refine q_getR hC (by decide) (by decide) rfl w_134 dX10_misfitAfter_58 (fun r11 => ?_)
    refine q_cVJ hC hnt (stk := []) (as := [.ref r11]) sX2_misfitOf (ci := 2) (by decide) rfl nX2_misfitOf rfl w_703 w_705 w_706 w_164 w_704 (Nat.le_of_ble_eq_true rfl) dX10_misfitAfter_61 rfl (fun v12 => ?_)
    exact q_lret hC dX10_misfitAfter_64 (Nat.le_of_ble_eq_true rfl) (Nat.le_of_ble_eq_true rfl)
  · exact c_no
theorem sX10_misfitAfter : Snd yX10_misfitAfter (.code yX10_misfitAfter cX10_misfitAfter 2 (some .long)) rmX10_misfitAfter SX10_misfitAfter := by
  refine Snd.of lX10_misfitAfter (by decide +kernel) (fun _ => rfl) ?_
  intro Γ hC hnt hnm J hJ L a
  match L with
  | 0 => exact pX10_misfitAfter_0 hC hnt J hJ a
  | L + 1 => exact c_no
/-! SpiritWall.heightIf(I)I -/
theorem dX10_heightIf_0 : decode cX10_heightIf 0 = .ok (.aload_n 0, 1) := by decide +kernel
theorem dX10_heightIf_1 : decode cX10_heightIf 1 = .ok (.iload_n 1, 1) := by decide +kernel
theorem dX10_heightIf_2 : decode cX10_heightIf 2 = .ok (.invokevirtual 170, 3) := by decide +kernel
theorem dX10_heightIf_5 : decode cX10_heightIf 5 = .ok (.aload_n 0, 1) := by decide +kernel
theorem dX10_heightIf_6 : decode cX10_heightIf 6 = .ok (.getfield 35, 3) := by decide +kernel
theorem dX10_heightIf_9 : decode cX10_heightIf 9 = .ok (.aload_n 0, 1) := by decide +kernel
theorem dX10_heightIf_10 : decode cX10_heightIf 10 = .ok (.getfield 31, 3) := by decide +kernel
theorem dX10_heightIf_13 : decode cX10_heightIf 13 = .ok (.invokevirtual 126, 3) := by decide +kernel
theorem dX10_heightIf_16 : decode cX10_heightIf 16 = .ok (.aload_n 0, 1) := by decide +kernel
theorem dX10_heightIf_17 : decode cX10_heightIf 17 = .ok (.getfield 62, 3) := by decide +kernel
theorem dX10_heightIf_20 : decode cX10_heightIf 20 = .ok (.aload_n 0, 1) := by decide +kernel
theorem dX10_heightIf_21 : decode cX10_heightIf 21 = .ok (.getfield 35, 3) := by decide +kernel
theorem dX10_heightIf_24 : decode cX10_heightIf 24 = .ok (.invokevirtual 164, 3) := by decide +kernel
theorem dX10_heightIf_27 : decode cX10_heightIf 27 = .ok (.aload_n 0, 1) := by decide +kernel
theorem dX10_heightIf_28 : decode cX10_heightIf 28 = .ok (.getfield 87, 3) := by decide +kernel
theorem dX10_heightIf_31 : decode cX10_heightIf 31 = .ok (.aload_n 0, 1) := by decide +kernel
theorem dX10_heightIf_32 : decode cX10_heightIf 32 = .ok (.getfield 35, 3) := by decide +kernel
theorem dX10_heightIf_35 : decode cX10_heightIf 35 = .ok (.invokevirtual 353, 3) := by decide +kernel
theorem dX10_heightIf_38 : decode cX10_heightIf 38 = .ok (.aload_n 0, 1) := by decide +kernel
theorem dX10_heightIf_39 : decode cX10_heightIf 39 = .ok (.getfield 35, 3) := by decide +kernel
theorem dX10_heightIf_42 : decode cX10_heightIf 42 = .ok (.iload_n 1, 1) := by decide +kernel
theorem dX10_heightIf_43 : decode cX10_heightIf 43 = .ok (.invokevirtual 214, 3) := by decide +kernel
theorem dX10_heightIf_46 : decode cX10_heightIf 46 = .ok (.ireturn, 1) := by decide +kernel
def rmX10_heightIf : Room := rmk 12 1 6 290
theorem nX10_heightIf : nameOk yX10_heightIf 1 = true := by decide +kernel
def bX10_heightIf_0 (J : JT) : List Value → Sem
  | [.ref x0, .int x1] =>
    ob 10 x0 (cV SX10_needMark [.ref x0, .int x1] <|
    gR 10 4 x0 fun r1 =>
    gR 10 3 x0 fun r2 =>
    ob 6 r1 (cV SX6_copyFrom [.ref r1, .ref r2] <|
    gR 10 8 x0 fun r3 =>
    gR 10 4 x0 fun r4 =>
    ob 0 r3 (cV SX0_measure [.ref r3, .ref r4] <|
    gR 10 11 x0 fun r5 =>
    gR 10 4 x0 fun r6 =>
    ob 2 r5 (cV SX2_levelOut [.ref r5, .ref r6] <|
    gR 10 4 x0 fun r7 =>
    ob 6 r7 (cI SX6_heightOf [.ref r7, .int x1] fun v8 =>
    rI v8)))))
  | _ => no
def bX10_heightIf (J : JT) : JT := fun L a => match L with
  | 0 => bX10_heightIf_0 J a
  | _ => no
def SX10_heightIf : ST := mk 2 bX10_heightIf
def lX10_heightIf (L : Nat) (a : List Value) : Nat × Nat × Nat × List (Nat × Value) × List Value := match L with
  | 0 => (0, 0, 0, lv_args 0 a, [])
  | _ => (0, 0, 0, [], [])
theorem pX10_heightIf_0 {Γ : CT} (hC : Ctx Γ "SpiritWall" cX10_heightIf 2 (some .int) rmX10_heightIf) (hnt : NT Γ) (J : JT) (hJ : ∀ L a, Cor Γ 2 (lX10_heightIf L a).1 (lX10_heightIf L a).2.1 (lX10_heightIf L a).2.2.1 (lX10_heightIf L a).2.2.2.1 (lX10_heightIf L a).2.2.2.2 (J L a)) (a : List Value) : Cor Γ 2 0 0 0 (lv_args 0 a) [] (bX10_heightIf_0 J a) := by
  unfold bX10_heightIf_0
  split
  · rename_i x0 x1
    refine c_sub [0, 1] rfl (loc' := [(0, .ref x0), (1, .int x1)]) ?_
    refine q_aload_n hC 0 dX10_heightIf_0 rfl rfl ?_
    refine q_iload_n hC 1 dX10_heightIf_1 rfl rfl ?_
    refine q_cVV hC hnt (stk := []) (as := [.int x1]) sX10_needMark (ci := 10) (by decide) rfl nX10_needMark rfl w_575 w_577 w_578 w_27 w_576 (Nat.le_of_ble_eq_true rfl) dX10_heightIf_2 rfl ?_
    refine q_aload_n hC 0 dX10_heightIf_5 rfl rfl ?_
    refine q_getR hC (by decide) (by decide) rfl w_134 dX10_heightIf_6 (fun r1 => ?_)
    refine q_aload_n hC 0 dX10_heightIf_9 rfl rfl ?_
    refine q_getR hC (by decide) (by decide) rfl w_133 dX10_heightIf_10 (fun r2 => ?_)
    refine q_cVV hC hnt (stk := []) (as := [.ref r2]) sX6_copyFrom (ci := 6) (by decide) rfl nX6_copyFrom rfl w_341 w_343 w_344 w_35 w_342 (Nat.le_of_ble_eq_true rfl) dX10_heightIf_13 rfl ?_
    refine q_aload_n hC 0 dX10_heightIf_16 rfl rfl ?_
    refine q_getR hC (by decide) (by decide) rfl w_150 dX10_heightIf_17 (fun r3 => ?_)
    refine q_aload_n hC 0 dX10_heightIf_20 rfl rfl ?_
    refine q_getR hC (by decide) (by decide) rfl w_134 dX10_heightIf_21 (fun r4 => ?_)
    refine q_cVV hC hnt (stk := []) (as := [.ref r4]) sX0_measure (ci := 0) (by decide) rfl nX0_measure rfl w_536 w_538 w_539 w_149 w_537 (Nat.le_of_ble_eq_true rfl) dX10_heightIf_24 rfl ?_
    refine q_aload_n hC 0 dX10_heightIf_27 rfl rfl ?_
    refine q_getR hC (by decide) (by decide) rfl w_165 dX10_heightIf_28 (fun r5 => ?_)
    refine q_aload_n hC 0 dX10_heightIf_31 rfl rfl ?_
    refine q_getR hC (by decide) (by decide) rfl w_134 dX10_heightIf_32 (fun r6 => ?_)
    refine q_cVV hC hnt (stk := []) (as := [.ref r6]) sX2_levelOut (ci := 2) (by decide) rfl nX2_levelOut rfl w_754 w_756 w_757 w_164 w_755 (Nat.le_of_ble_eq_true rfl) dX10_heightIf_35 rfl ?_
    refine q_aload_n hC 0 dX10_heightIf_38 rfl rfl ?_
    refine q_getR hC (by decide) (by decide) rfl w_134 dX10_heightIf_39 (fun r7 => ?_)
    refine q_iload_n hC 1 dX10_heightIf_42 rfl rfl ?_
    refine q_cVI hC hnt (stk := []) (as := [.int x1]) sX6_heightOf (ci := 6) (by decide) rfl nX6_heightOf rfl w_610 w_612 w_613 w_35 w_611 (Nat.le_of_ble_eq_true rfl) dX10_heightIf_43 rfl (fun v8 => ?_)
    exact q_iret hC dX10_heightIf_46 (Nat.le_of_ble_eq_true rfl) (Nat.le_of_ble_eq_true rfl)
  · exact c_no
theorem sX10_heightIf : Snd yX10_heightIf (.code yX10_heightIf cX10_heightIf 2 (some .int)) rmX10_heightIf SX10_heightIf := by
  refine Snd.of lX10_heightIf (by decide +kernel) (fun _ => rfl) ?_
  intro Γ hC hnt hnm J hJ L a
  match L with
  | 0 => exact pX10_heightIf_0 hC hnt J hJ a
  | L + 1 => exact c_no
/-! SpiritWall.leastLimit()I -/
theorem dX10_leastLimit_0 : decode cX10_leastLimit 0 = .ok (.aload_n 0, 1) := by decide +kernel
theorem dX10_leastLimit_1 : decode cX10_leastLimit 1 = .ok (.aload_n 0, 1) := by decide +kernel
theorem dX10_leastLimit_2 : decode cX10_leastLimit 2 = .ok (.getfield 31, 3) := by decide +kernel
theorem dX10_leastLimit_5 : decode cX10_leastLimit 5 = .ok (.invokevirtual 135, 3) := by decide +kernel
theorem dX10_leastLimit_8 : decode cX10_leastLimit 8 = .ok (.iconst 0, 1) := by decide +kernel
theorem dX10_leastLimit_9 : decode cX10_leastLimit 9 = .ok (.istore_n 1, 1) := by decide +kernel
theorem dX10_leastLimit_10 : decode cX10_leastLimit 10 = .ok (.iconst 0, 1) := by decide +kernel
theorem dX10_leastLimit_11 : decode cX10_leastLimit 11 = .ok (.istore_n 2, 1) := by decide +kernel
theorem dX10_leastLimit_12 : decode cX10_leastLimit 12 = .ok (.iload_n 2, 1) := by decide +kernel
theorem dX10_leastLimit_13 : decode cX10_leastLimit 13 = .ok (.aload_n 0, 1) := by decide +kernel
theorem dX10_leastLimit_14 : decode cX10_leastLimit 14 = .ok (.getfield 80, 3) := by decide +kernel
theorem dX10_leastLimit_17 : decode cX10_leastLimit 17 = .ok (.getfield 150, 3) := by decide +kernel
theorem dX10_leastLimit_20 : decode cX10_leastLimit 20 = .ok (.if_icmp .ge 34, 3) := by decide +kernel
theorem dX10_leastLimit_23 : decode cX10_leastLimit 23 = .ok (.iload_n 1, 1) := by decide +kernel
theorem dX10_leastLimit_24 : decode cX10_leastLimit 24 = .ok (.sipush 999, 3) := by decide +kernel
theorem dX10_leastLimit_27 : decode cX10_leastLimit 27 = .ok (.if_icmp .gt 21, 3) := by decide +kernel
theorem dX10_leastLimit_30 : decode cX10_leastLimit 30 = .ok (.aload_n 0, 1) := by decide +kernel
theorem dX10_leastLimit_31 : decode cX10_leastLimit 31 = .ok (.getfield 80, 3) := by decide +kernel
theorem dX10_leastLimit_34 : decode cX10_leastLimit 34 = .ok (.iload_n 2, 1) := by decide +kernel
theorem dX10_leastLimit_35 : decode cX10_leastLimit 35 = .ok (.iload_n 1, 1) := by decide +kernel
theorem dX10_leastLimit_36 : decode cX10_leastLimit 36 = .ok (.invokevirtual 306, 3) := by decide +kernel
theorem dX10_leastLimit_39 : decode cX10_leastLimit 39 = .ok (.ifCond .ne 9, 3) := by decide +kernel
theorem dX10_leastLimit_42 : decode cX10_leastLimit 42 = .ok (.iinc 1 1, 3) := by decide +kernel
theorem dX10_leastLimit_45 : decode cX10_leastLimit 45 = .ok (.goto (-22), 3) := by decide +kernel
theorem dX10_leastLimit_48 : decode cX10_leastLimit 48 = .ok (.iinc 2 1, 3) := by decide +kernel
theorem dX10_leastLimit_51 : decode cX10_leastLimit 51 = .ok (.goto (-39), 3) := by decide +kernel
theorem dX10_leastLimit_54 : decode cX10_leastLimit 54 = .ok (.iload_n 1, 1) := by decide +kernel
theorem dX10_leastLimit_55 : decode cX10_leastLimit 55 = .ok (.sipush 999, 3) := by decide +kernel
theorem dX10_leastLimit_58 : decode cX10_leastLimit 58 = .ok (.if_icmp .gt 7, 3) := by decide +kernel
theorem dX10_leastLimit_61 : decode cX10_leastLimit 61 = .ok (.iload_n 1, 1) := by decide +kernel
theorem dX10_leastLimit_62 : decode cX10_leastLimit 62 = .ok (.goto 4, 3) := by decide +kernel
theorem dX10_leastLimit_65 : decode cX10_leastLimit 65 = .ok (.iconst (-1), 1) := by decide +kernel
theorem dX10_leastLimit_66 : decode cX10_leastLimit 66 = .ok (.ireturn, 1) := by decide +kernel
def rmX10_leastLimit : Room := rmk 13 0 0 311
theorem nX10_leastLimit : nameOk yX10_leastLimit 0 = true := by decide +kernel
def bX10_leastLimit_0 (J : JT) : List Value → Sem
  | [.ref x0] =>
    gR 10 3 x0 fun r1 =>
    ob 10 x0 (cV SX10_survey [.ref x0, .ref r1] <|
    J 1 [.ref x0, .int 0, .int 0])
  | _ => no
def bX10_leastLimit_1 (J : JT) : List Value → Sem
  | [.ref x0, .int x1, .int x2] =>
    gR 10 10 x0 fun r1 =>
    gI 4 2 r1 fun v2 =>
    br (v2 ≤ x2)
    (br ((999 : Int32) < x1)
    (rI (-1))
    (rI x1))
    (J 2 [.ref x0, .int x1, .int x2])
  | _ => no
def bX10_leastLimit_2 (J : JT) : List Value → Sem
  | [.ref x0, .int x1, .int x2] =>
    br ((999 : Int32) < x1)
    (J 1 [.ref x0, .int x1, .int (x2 + 1)])
    (gR 10 10 x0 fun r1 =>
    ob 4 r1 (cI SX4_closes [.ref r1, .int x2, .int x1] fun v2 =>
    br (v2 = 0)
    (J 2 [.ref x0, .int (x1 + 1), .int x2])
    (J 1 [.ref x0, .int x1, .int (x2 + 1)])))
  | _ => no
def bX10_leastLimit (J : JT) : JT := fun L a => match L with
  | 0 => bX10_leastLimit_0 J a
  | 1 => bX10_leastLimit_1 J a
  | 2 => bX10_leastLimit_2 J a
  | _ => no
def SX10_leastLimit : ST := mk 3 bX10_leastLimit
def lX10_leastLimit (L : Nat) (a : List Value) : Nat × Nat × Nat × List (Nat × Value) × List Value := match L with
  | 0 => (0, 0, 0, lv_args 0 a, [])
  | 1 => (0, 0, 12, List.zip [0, 1, 2] a, [])
  | 2 => (0, 0, 23, List.zip [0, 1, 2] a, [])
  | _ => (0, 0, 0, [], [])
theorem pX10_leastLimit_0 {Γ : CT} (hC : Ctx Γ "SpiritWall" cX10_leastLimit 3 (some .int) rmX10_leastLimit) (hnt : NT Γ) (J : JT) (hJ : ∀ L a, Cor Γ 3 (lX10_leastLimit L a).1 (lX10_leastLimit L a).2.1 (lX10_leastLimit L a).2.2.1 (lX10_leastLimit L a).2.2.2.1 (lX10_leastLimit L a).2.2.2.2 (J L a)) (a : List Value) : Cor Γ 3 0 0 0 (lv_args 0 a) [] (bX10_leastLimit_0 J a) := by
  unfold bX10_leastLimit_0
  split
  · rename_i x0
    refine c_sub [0] rfl (loc' := [(0, .ref x0)]) ?_
    refine q_aload_n hC 0 dX10_leastLimit_0 rfl rfl ?_
    refine q_aload_n hC 0 dX10_leastLimit_1 rfl rfl ?_
    refine q_getR hC (by decide) (by decide) rfl w_133 dX10_leastLimit_2 (fun r1 => ?_)
    refine q_cVV hC hnt (stk := []) (as := [.ref r1]) sX10_survey (ci := 10) (by decide) rfl nX10_survey rfl w_552 w_554 w_555 w_27 w_553 (Nat.le_of_ble_eq_true rfl) dX10_leastLimit_5 rfl ?_
    refine q_iconst hC dX10_leastLimit_8 rfl ?_
    refine q_istore_nA hC (loc' := [(1, .int 0), (0, .ref x0)]) dX10_leastLimit_9 rfl (Nat.le_of_ble_eq_true rfl) rfl ?_
    refine q_iconst hC dX10_leastLimit_10 rfl ?_
    refine q_istore_nA hC (loc' := [(2, .int 0), (1, .int 0), (0, .ref x0)]) dX10_leastLimit_11 rfl (Nat.le_of_ble_eq_true rfl) rfl ?_
    exact c_sub [2, 1, 0] rfl (hJ 1 [.ref x0, .int 0, .int 0])
  · exact c_no
theorem pX10_leastLimit_1 {Γ : CT} (hC : Ctx Γ "SpiritWall" cX10_leastLimit 3 (some .int) rmX10_leastLimit) (hnt : NT Γ) (J : JT) (hJ : ∀ L a, Cor Γ 3 (lX10_leastLimit L a).1 (lX10_leastLimit L a).2.1 (lX10_leastLimit L a).2.2.1 (lX10_leastLimit L a).2.2.2.1 (lX10_leastLimit L a).2.2.2.2 (J L a)) (a : List Value) : Cor Γ 3 0 0 12 (List.zip [0, 1, 2] a) [] (bX10_leastLimit_1 J a) := by
  unfold bX10_leastLimit_1
  split
  · rename_i x0 x1 x2
    refine c_sub [0, 1, 2] rfl (loc' := [(0, .ref x0), (1, .int x1), (2, .int x2)]) ?_
    refine q_iload_n hC 2 dX10_leastLimit_12 rfl rfl ?_
    refine q_aload_n hC 0 dX10_leastLimit_13 rfl rfl ?_
    refine q_getR hC (by decide) (by decide) rfl w_160 dX10_leastLimit_14 (fun r1 => ?_)
    refine q_getI hC (by decide) (by decide) rfl w_567 dX10_leastLimit_17 (fun v2 => ?_)
    refine q_ic_ge hC 54 dX10_leastLimit_20 rfl ?_ ?_
    · refine q_iload_n hC 1 dX10_leastLimit_54 rfl rfl ?_
      refine q_sipush hC (v := 999) dX10_leastLimit_55 rfl ?_
      refine q_ic_gt hC 65 dX10_leastLimit_58 rfl ?_ ?_
      · refine q_iconst hC dX10_leastLimit_65 rfl ?_
        exact q_iret hC dX10_leastLimit_66 (Nat.le_of_ble_eq_true rfl) (Nat.le_of_ble_eq_true rfl)
      · refine q_iload_n hC 1 dX10_leastLimit_61 rfl rfl ?_
        refine q_goto hC 66 dX10_leastLimit_62 rfl ?_
        exact q_iret hC dX10_leastLimit_66 (Nat.le_of_ble_eq_true rfl) (Nat.le_of_ble_eq_true rfl)
    · exact c_sub [0, 1, 2] rfl (hJ 2 [.ref x0, .int x1, .int x2])
  · exact c_no
theorem pX10_leastLimit_2 {Γ : CT} (hC : Ctx Γ "SpiritWall" cX10_leastLimit 3 (some .int) rmX10_leastLimit) (hnt : NT Γ) (J : JT) (hJ : ∀ L a, Cor Γ 3 (lX10_leastLimit L a).1 (lX10_leastLimit L a).2.1 (lX10_leastLimit L a).2.2.1 (lX10_leastLimit L a).2.2.2.1 (lX10_leastLimit L a).2.2.2.2 (J L a)) (a : List Value) : Cor Γ 3 0 0 23 (List.zip [0, 1, 2] a) [] (bX10_leastLimit_2 J a) := by
  unfold bX10_leastLimit_2
  split
  · rename_i x0 x1 x2
    refine c_sub [0, 1, 2] rfl (loc' := [(0, .ref x0), (1, .int x1), (2, .int x2)]) ?_
    refine q_iload_n hC 1 dX10_leastLimit_23 rfl rfl ?_
    refine q_sipush hC (v := 999) dX10_leastLimit_24 rfl ?_
    refine q_ic_gt hC 48 dX10_leastLimit_27 rfl ?_ ?_
    · refine q_iincA hC (loc' := [(2, .int (x2 + 1)), (0, .ref x0), (1, .int x1)]) 2 1 dX10_leastLimit_48 rfl rfl (Nat.le_of_ble_eq_true rfl) rfl ?_
      refine q_goto hC 12 dX10_leastLimit_51 rfl ?_
      exact c_sub [1, 2, 0] rfl (hJ 1 [.ref x0, .int x1, .int (x2 + 1)])
    · refine q_aload_n hC 0 dX10_leastLimit_30 rfl rfl ?_
      refine q_getR hC (by decide) (by decide) rfl w_160 dX10_leastLimit_31 (fun r1 => ?_)
      refine q_iload_n hC 2 dX10_leastLimit_34 rfl rfl ?_
      refine q_iload_n hC 1 dX10_leastLimit_35 rfl rfl ?_
      refine q_cVI hC hnt (stk := []) (as := [.int x2, .int x1]) sX4_closes (ci := 4) (by decide) rfl nX4_closes rfl w_668 w_530 w_531 w_159 w_529 (Nat.le_of_ble_eq_true rfl) dX10_leastLimit_36 rfl (fun v2 => ?_)
      refine q_if_ne hC 48 dX10_leastLimit_39 rfl ?_ ?_
      · refine q_iincA hC (loc' := [(2, .int (x2 + 1)), (0, .ref x0), (1, .int x1)]) 2 1 dX10_leastLimit_48 rfl rfl (Nat.le_of_ble_eq_true rfl) rfl ?_
        refine q_goto hC 12 dX10_leastLimit_51 rfl ?_
        exact c_sub [1, 2, 0] rfl (hJ 1 [.ref x0, .int x1, .int (x2 + 1)])
      · refine q_iincA hC (loc' := [(1, .int (x1 + 1)), (0, .ref x0), (2, .int x2)]) 1 1 dX10_leastLimit_42 rfl rfl (Nat.le_of_ble_eq_true rfl) rfl ?_
        refine q_goto hC 23 dX10_leastLimit_45 rfl ?_
        exact c_sub [1, 0, 2] rfl (hJ 2 [.ref x0, .int (x1 + 1), .int x2])
  · exact c_no
theorem sX10_leastLimit : Snd yX10_leastLimit (.code yX10_leastLimit cX10_leastLimit 3 (some .int)) rmX10_leastLimit SX10_leastLimit := by
  refine Snd.of lX10_leastLimit (by decide +kernel) (fun _ => rfl) ?_
  intro Γ hC hnt hnm J hJ L a
  match L with
  | 0 => exact pX10_leastLimit_0 hC hnt J hJ a
  | 1 => exact pX10_leastLimit_1 hC hnt J hJ a
  | 2 => exact pX10_leastLimit_2 hC hnt J hJ a
  | L + 3 => exact c_no
/-! SpiritWall$History.stateAt(I)LSpiritWall$State; -/
theorem dX3_stateAt_0 : decode cX3_stateAt 0 = .ok (.iload_n 1, 1) := by decide +kernel
theorem dX3_stateAt_1 : decode cX3_stateAt 1 = .ok (.ifCond .lt 21, 3) := by decide +kernel
theorem dX3_stateAt_4 : decode cX3_stateAt 4 = .ok (.iload_n 1, 1) := by decide +kernel
theorem dX3_stateAt_5 : decode cX3_stateAt 5 = .ok (.aload_n 0, 1) := by decide +kernel
theorem dX3_stateAt_6 : decode cX3_stateAt 6 = .ok (.getfield 11, 3) := by decide +kernel
theorem dX3_stateAt_9 : decode cX3_stateAt 9 = .ok (.arraylength, 1) := by decide +kernel
theorem dX3_stateAt_10 : decode cX3_stateAt 10 = .ok (.if_icmp .ge 12, 3) := by decide +kernel
theorem dX3_stateAt_13 : decode cX3_stateAt 13 = .ok (.aload_n 0, 1) := by decide +kernel
theorem dX3_stateAt_14 : decode cX3_stateAt 14 = .ok (.getfield 11, 3) := by decide +kernel
theorem dX3_stateAt_17 : decode cX3_stateAt 17 = .ok (.iload_n 1, 1) := by decide +kernel
theorem dX3_stateAt_18 : decode cX3_stateAt 18 = .ok (.aaload, 1) := by decide +kernel
theorem dX3_stateAt_19 : decode cX3_stateAt 19 = .ok (.goto 4, 3) := by decide +kernel
theorem dX3_stateAt_22 : decode cX3_stateAt 22 = .ok (.aconst_null, 1) := by decide +kernel
theorem dX3_stateAt_23 : decode cX3_stateAt 23 = .ok (.areturn, 1) := by decide +kernel
def rmX3_stateAt : Room := rmk 6 0 0 150
theorem nX3_stateAt : nameOk yX3_stateAt 1 = true := by decide +kernel
def bX3_stateAt_0 (J : JT) : List Value → Sem
  | [.ref x0, .int x1] =>
    br (x1 < 0)
    (rO none)
    (gR 3 0 x0 fun r1 =>
    aL r1 fun v2 =>
    br (v2 ≤ x1)
    (rO none)
    (gR 3 0 x0 fun r3 =>
    aR r3 x1 fun r4 =>
    rO (some r4)))
  | _ => no
def bX3_stateAt (J : JT) : JT := fun L a => match L with
  | 0 => bX3_stateAt_0 J a
  | _ => no
def SX3_stateAt : ST := mk 2 bX3_stateAt
def lX3_stateAt (L : Nat) (a : List Value) : Nat × Nat × Nat × List (Nat × Value) × List Value := match L with
  | 0 => (0, 0, 0, lv_args 0 a, [])
  | _ => (0, 0, 0, [], [])
theorem pX3_stateAt_0 {Γ : CT} (hC : Ctx Γ "SpiritWall$History" cX3_stateAt 2 (some (.object "SpiritWall$State")) rmX3_stateAt) (hnt : NT Γ) (J : JT) (hJ : ∀ L a, Cor Γ 2 (lX3_stateAt L a).1 (lX3_stateAt L a).2.1 (lX3_stateAt L a).2.2.1 (lX3_stateAt L a).2.2.2.1 (lX3_stateAt L a).2.2.2.2 (J L a)) (a : List Value) : Cor Γ 2 0 0 0 (lv_args 0 a) [] (bX3_stateAt_0 J a) := by
  unfold bX3_stateAt_0
  split
  · rename_i x0 x1
    refine c_sub [0, 1] rfl (loc' := [(0, .ref x0), (1, .int x1)]) ?_
    refine q_iload_n hC 1 dX3_stateAt_0 rfl rfl ?_
    refine q_if_lt hC 22 dX3_stateAt_1 rfl ?_ ?_
    · refine q_null hC dX3_stateAt_22 ?_
      exact q_aretN hC dX3_stateAt_23 (Nat.le_of_ble_eq_true rfl) (Nat.le_of_ble_eq_true rfl)
    · refine q_iload_n hC 1 dX3_stateAt_4 rfl rfl ?_
      refine q_aload_n hC 0 dX3_stateAt_5 rfl rfl ?_
      refine q_getR hC (by decide) (by decide) rfl w_29 dX3_stateAt_6 (fun r1 => ?_)
      refine q_alen hC dX3_stateAt_9 (fun v2 => ?_)
      refine q_ic_ge hC 22 dX3_stateAt_10 rfl ?_ ?_
      · refine q_null hC dX3_stateAt_22 ?_
        exact q_aretN hC dX3_stateAt_23 (Nat.le_of_ble_eq_true rfl) (Nat.le_of_ble_eq_true rfl)
      · refine q_aload_n hC 0 dX3_stateAt_13 rfl rfl ?_
        refine q_getR hC (by decide) (by decide) rfl w_29 dX3_stateAt_14 (fun r3 => ?_)
        refine q_iload_n hC 1 dX3_stateAt_17 rfl rfl ?_
        refine q_aald hC dX3_stateAt_18 (fun r4 => ?_)
        refine q_goto hC 23 dX3_stateAt_19 rfl ?_
        exact q_aret hC dX3_stateAt_23 (Nat.le_of_ble_eq_true rfl) (Nat.le_of_ble_eq_true rfl)
  · exact c_no
theorem sX3_stateAt : Snd yX3_stateAt (.code yX3_stateAt cX3_stateAt 2 (some (.object "SpiritWall$State"))) rmX3_stateAt SX3_stateAt := by
  refine Snd.of lX3_stateAt (by decide +kernel) (fun _ => rfl) ?_
  intro Γ hC hnt hnm J hJ L a
  match L with
  | 0 => exact pX3_stateAt_0 hC hnt J hJ a
  | L + 1 => exact c_no
/-! SpiritWall$History.keep(LSpiritWall$State;)V -/
theorem dX3_keep_0 : decode cX3_keep 0 = .ok (.aload_n 0, 1) := by decide +kernel
theorem dX3_keep_1 : decode cX3_keep 1 = .ok (.aload_n 0, 1) := by decide +kernel
theorem dX3_keep_2 : decode cX3_keep 2 = .ok (.getfield 21, 3) := by decide +kernel
theorem dX3_keep_5 : decode cX3_keep 5 = .ok (.iconst 1, 1) := by decide +kernel
theorem dX3_keep_6 : decode cX3_keep 6 = .ok (.iadd, 1) := by decide +kernel
theorem dX3_keep_7 : decode cX3_keep 7 = .ok (.bipush 10, 2) := by decide +kernel
theorem dX3_keep_9 : decode cX3_keep 9 = .ok (.if_icmp .ge 12, 3) := by decide +kernel
theorem dX3_keep_12 : decode cX3_keep 12 = .ok (.aload_n 0, 1) := by decide +kernel
theorem dX3_keep_13 : decode cX3_keep 13 = .ok (.getfield 21, 3) := by decide +kernel
theorem dX3_keep_16 : decode cX3_keep 16 = .ok (.iconst 1, 1) := by decide +kernel
theorem dX3_keep_17 : decode cX3_keep 17 = .ok (.iadd, 1) := by decide +kernel
theorem dX3_keep_18 : decode cX3_keep 18 = .ok (.goto 4, 3) := by decide +kernel
theorem dX3_keep_21 : decode cX3_keep 21 = .ok (.iconst 0, 1) := by decide +kernel
theorem dX3_keep_22 : decode cX3_keep 22 = .ok (.putfield 21, 3) := by decide +kernel
theorem dX3_keep_25 : decode cX3_keep 25 = .ok (.aload_n 0, 1) := by decide +kernel
theorem dX3_keep_26 : decode cX3_keep 26 = .ok (.aload_n 0, 1) := by decide +kernel
theorem dX3_keep_27 : decode cX3_keep 27 = .ok (.getfield 21, 3) := by decide +kernel
theorem dX3_keep_30 : decode cX3_keep 30 = .ok (.invokevirtual 25, 3) := by decide +kernel
theorem dX3_keep_33 : decode cX3_keep 33 = .ok (.astore_n 2, 1) := by decide +kernel
theorem dX3_keep_34 : decode cX3_keep 34 = .ok (.aload_n 2, 1) := by decide +kernel
theorem dX3_keep_35 : decode cX3_keep 35 = .ok (.ifnull 8, 3) := by decide +kernel
theorem dX3_keep_38 : decode cX3_keep 38 = .ok (.aload_n 2, 1) := by decide +kernel
theorem dX3_keep_39 : decode cX3_keep 39 = .ok (.aload_n 1, 1) := by decide +kernel
theorem dX3_keep_40 : decode cX3_keep 40 = .ok (.invokevirtual 29, 3) := by decide +kernel
theorem dX3_keep_43 : decode cX3_keep 43 = .ok (.aload_n 0, 1) := by decide +kernel
theorem dX3_keep_44 : decode cX3_keep 44 = .ok (.getfield 17, 3) := by decide +kernel
theorem dX3_keep_47 : decode cX3_keep 47 = .ok (.bipush 10, 2) := by decide +kernel
theorem dX3_keep_49 : decode cX3_keep 49 = .ok (.if_icmp .ge 13, 3) := by decide +kernel
theorem dX3_keep_52 : decode cX3_keep 52 = .ok (.aload_n 0, 1) := by decide +kernel
theorem dX3_keep_53 : decode cX3_keep 53 = .ok (.dup, 1) := by decide +kernel
theorem dX3_keep_54 : decode cX3_keep 54 = .ok (.getfield 17, 3) := by decide +kernel
theorem dX3_keep_57 : decode cX3_keep 57 = .ok (.iconst 1, 1) := by decide +kernel
theorem dX3_keep_58 : decode cX3_keep 58 = .ok (.iadd, 1) := by decide +kernel
theorem dX3_keep_59 : decode cX3_keep 59 = .ok (.putfield 17, 3) := by decide +kernel
theorem dX3_keep_62 : decode cX3_keep 62 = .ok (.return_, 1) := by decide +kernel
def rmX3_keep : Room := rmk 8 0 0 193
theorem nX3_keep : nameOk yX3_keep 1 = true := by decide +kernel
def bX3_keep_0 (J : JT) : List Value → Sem
  | [.ref x0, .ref x1] =>
    gI 3 2 x0 fun v1 =>
    br ((10 : Int32) ≤ (v1 + 1))
    (pI 3 2 x0 0 <|
    gI 3 2 x0 fun v2 =>
    ob 3 x0 (cO SX3_stateAt [.ref x0, .int v2] (fun r3 =>
    ob 6 r3 (cV SX6_copyFrom [.ref r3, .ref x1] <|
    gI 3 1 x0 fun v4 =>
    br ((10 : Int32) ≤ v4)
    (rV)
    (gI 3 1 x0 fun v5 =>
    pI 3 1 x0 (v5 + 1) <|
    rV)))
    (gI 3 1 x0 fun v6 =>
    br ((10 : Int32) ≤ v6)
    (rV)
    (gI 3 1 x0 fun v7 =>
    pI 3 1 x0 (v7 + 1) <|
    rV))))
    (gI 3 2 x0 fun v8 =>
    pI 3 2 x0 (v8 + 1) <|
    gI 3 2 x0 fun v9 =>
    ob 3 x0 (cO SX3_stateAt [.ref x0, .int v9] (fun r10 =>
    ob 6 r10 (cV SX6_copyFrom [.ref r10, .ref x1] <|
    gI 3 1 x0 fun v11 =>
    br ((10 : Int32) ≤ v11)
    (rV)
    (gI 3 1 x0 fun v12 =>
    pI 3 1 x0 (v12 + 1) <|
    rV)))
    (gI 3 1 x0 fun v13 =>
    br ((10 : Int32) ≤ v13)
    (rV)
    (gI 3 1 x0 fun v14 =>
    pI 3 1 x0 (v14 + 1) <|
    rV))))
  | _ => no
def bX3_keep (J : JT) : JT := fun L a => match L with
  | 0 => bX3_keep_0 J a
  | _ => no
def SX3_keep : ST := mk 3 bX3_keep
def lX3_keep (L : Nat) (a : List Value) : Nat × Nat × Nat × List (Nat × Value) × List Value := match L with
  | 0 => (0, 0, 0, lv_args 0 a, [])
  | _ => (0, 0, 0, [], [])
theorem pX3_keep_0 {Γ : CT} (hC : Ctx Γ "SpiritWall$History" cX3_keep 3 none rmX3_keep) (hnt : NT Γ) (J : JT) (hJ : ∀ L a, Cor Γ 3 (lX3_keep L a).1 (lX3_keep L a).2.1 (lX3_keep L a).2.2.1 (lX3_keep L a).2.2.2.1 (lX3_keep L a).2.2.2.2 (J L a)) (a : List Value) : Cor Γ 3 0 0 0 (lv_args 0 a) [] (bX3_keep_0 J a) := by
  unfold bX3_keep_0
  split
  · rename_i x0 x1
    refine c_sub [0, 1] rfl (loc' := [(0, .ref x0), (1, .ref x1)]) ?_
    refine q_aload_n hC 0 dX3_keep_0 rfl rfl ?_
    refine q_aload_n hC 0 dX3_keep_1 rfl rfl ?_
    refine q_getI hC (by decide) (by decide) rfl w_31 dX3_keep_2 (fun v1 => ?_)
    refine q_iconst hC dX3_keep_5 rfl ?_
    refine q_iadd hC dX3_keep_6 ?_
    refine q_bipush hC (v := 10) dX3_keep_7 rfl ?_
    refine q_ic_ge hC 21 dX3_keep_9 rfl ?_ ?_
    · refine q_iconst hC dX3_keep_21 rfl ?_
      refine q_putI hC (by decide) (by decide) rfl rfl w_31 dX3_keep_22 ?_
      refine q_aload_n hC 0 dX3_keep_25 rfl rfl ?_
      refine q_aload_n hC 0 dX3_keep_26 rfl rfl ?_
      refine q_getI hC (by decide) (by decide) rfl w_31 dX3_keep_27 (fun v2 => ?_)
      refine q_cVO hC hnt (stk := []) (as := [.int v2]) sX3_stateAt (ci := 3) (by decide) rfl nX3_stateAt rfl w_762 w_764 w_765 w_139 w_763 (Nat.le_of_ble_eq_true rfl) dX3_keep_30 rfl (fun r3 => ?_) ?_
      · refine q_astore_n hC (loc' := [(2, .ref r3), (0, .ref x0), (1, .ref x1)]) dX3_keep_33 rfl (Nat.le_of_ble_eq_true rfl) rfl ?_
        refine q_aload_n hC 0 dX3_keep_34 rfl rfl ?_
        refine q_ifnull hC dX3_keep_35 ?_
        refine q_aload_n hC 0 dX3_keep_38 rfl rfl ?_
        refine q_aload_n hC 2 dX3_keep_39 rfl rfl ?_
        refine q_cVV hC hnt (stk := []) (as := [.ref x1]) sX6_copyFrom (ci := 6) (by decide) rfl nX6_copyFrom rfl w_766 w_343 w_344 w_35 w_342 (Nat.le_of_ble_eq_true rfl) dX3_keep_40 rfl ?_
        refine q_aload_n hC 1 dX3_keep_43 rfl rfl ?_
        refine q_getI hC (by decide) (by decide) rfl w_30 dX3_keep_44 (fun v4 => ?_)
        refine q_bipush hC (v := 10) dX3_keep_47 rfl ?_
        refine q_ic_ge hC 62 dX3_keep_49 rfl ?_ ?_
        · exact q_vret hC dX3_keep_62 (Nat.le_of_ble_eq_true rfl) (Nat.le_of_ble_eq_true rfl)
        · refine q_aload_n hC 1 dX3_keep_52 rfl rfl ?_
          refine q_dup hC dX3_keep_53 ?_
          refine q_getI hC (by decide) (by decide) rfl w_30 dX3_keep_54 (fun v5 => ?_)
          refine q_iconst hC dX3_keep_57 rfl ?_
          refine q_iadd hC dX3_keep_58 ?_
          refine q_putI hC (by decide) (by decide) rfl rfl w_30 dX3_keep_59 ?_
          exact q_vret hC dX3_keep_62 (Nat.le_of_ble_eq_true rfl) (Nat.le_of_ble_eq_true rfl)
      · refine q_astore_nN hC (loc' := [(2, .null), (0, .ref x0), (1, .ref x1)]) dX3_keep_33 rfl (Nat.le_of_ble_eq_true rfl) rfl ?_
        refine q_aload_nN hC 0 dX3_keep_34 rfl rfl ?_
        refine q_ifnullN hC 43 dX3_keep_35 rfl ?_
        refine q_aload_n hC 1 dX3_keep_43 rfl rfl ?_
        refine q_getI hC (by decide) (by decide) rfl w_30 dX3_keep_44 (fun v6 => ?_)
        refine q_bipush hC (v := 10) dX3_keep_47 rfl ?_
        refine q_ic_ge hC 62 dX3_keep_49 rfl ?_ ?_
        · exact q_vret hC dX3_keep_62 (Nat.le_of_ble_eq_true rfl) (Nat.le_of_ble_eq_true rfl)
        · refine q_aload_n hC 1 dX3_keep_52 rfl rfl ?_
          refine q_dup hC dX3_keep_53 ?_
          refine q_getI hC (by decide) (by decide) rfl w_30 dX3_keep_54 (fun v7 => ?_)
          refine q_iconst hC dX3_keep_57 rfl ?_
          refine q_iadd hC dX3_keep_58 ?_
          refine q_putI hC (by decide) (by decide) rfl rfl w_30 dX3_keep_59 ?_
          exact q_vret hC dX3_keep_62 (Nat.le_of_ble_eq_true rfl) (Nat.le_of_ble_eq_true rfl)
    · refine q_aload_n hC 0 dX3_keep_12 rfl rfl ?_
      refine q_getI hC (by decide) (by decide) rfl w_31 dX3_keep_13 (fun v8 => ?_)
      refine q_iconst hC dX3_keep_16 rfl ?_
      refine q_iadd hC dX3_keep_17 ?_
      refine q_goto hC 22 dX3_keep_18 rfl ?_
      refine q_putI hC (by decide) (by decide) rfl rfl w_31 dX3_keep_22 ?_
      refine q_aload_n hC 0 dX3_keep_25 rfl rfl ?_
      refine q_aload_n hC 0 dX3_keep_26 rfl rfl ?_
      refine q_getI hC (by decide) (by decide) rfl w_31 dX3_keep_27 (fun v9 => ?_)
      refine q_cVO hC hnt (stk := []) (as := [.int v9]) sX3_stateAt (ci := 3) (by decide) rfl nX3_stateAt rfl w_762 w_764 w_765 w_139 w_763 (Nat.le_of_ble_eq_true rfl) dX3_keep_30 rfl (fun r10 => ?_) ?_
      · refine q_astore_n hC (loc' := [(2, .ref r10), (0, .ref x0), (1, .ref x1)]) dX3_keep_33 rfl (Nat.le_of_ble_eq_true rfl) rfl ?_
        refine q_aload_n hC 0 dX3_keep_34 rfl rfl ?_
        refine q_ifnull hC dX3_keep_35 ?_
        refine q_aload_n hC 0 dX3_keep_38 rfl rfl ?_
        refine q_aload_n hC 2 dX3_keep_39 rfl rfl ?_
        refine q_cVV hC hnt (stk := []) (as := [.ref x1]) sX6_copyFrom (ci := 6) (by decide) rfl nX6_copyFrom rfl w_766 w_343 w_344 w_35 w_342 (Nat.le_of_ble_eq_true rfl) dX3_keep_40 rfl ?_
        refine q_aload_n hC 1 dX3_keep_43 rfl rfl ?_
        refine q_getI hC (by decide) (by decide) rfl w_30 dX3_keep_44 (fun v11 => ?_)
        refine q_bipush hC (v := 10) dX3_keep_47 rfl ?_
        refine q_ic_ge hC 62 dX3_keep_49 rfl ?_ ?_
        · exact q_vret hC dX3_keep_62 (Nat.le_of_ble_eq_true rfl) (Nat.le_of_ble_eq_true rfl)
        · refine q_aload_n hC 1 dX3_keep_52 rfl rfl ?_
          refine q_dup hC dX3_keep_53 ?_
          refine q_getI hC (by decide) (by decide) rfl w_30 dX3_keep_54 (fun v12 => ?_)
          refine q_iconst hC dX3_keep_57 rfl ?_
          refine q_iadd hC dX3_keep_58 ?_
          refine q_putI hC (by decide) (by decide) rfl rfl w_30 dX3_keep_59 ?_
          exact q_vret hC dX3_keep_62 (Nat.le_of_ble_eq_true rfl) (Nat.le_of_ble_eq_true rfl)
      · refine q_astore_nN hC (loc' := [(2, .null), (0, .ref x0), (1, .ref x1)]) dX3_keep_33 rfl (Nat.le_of_ble_eq_true rfl) rfl ?_
        refine q_aload_nN hC 0 dX3_keep_34 rfl rfl ?_
        refine q_ifnullN hC 43 dX3_keep_35 rfl ?_
        refine q_aload_n hC 1 dX3_keep_43 rfl rfl ?_
        refine q_getI hC (by decide) (by decide) rfl w_30 dX3_keep_44 (fun v13 => ?_)
        refine q_bipush hC (v := 10) dX3_keep_47 rfl ?_
        refine q_ic_ge hC 62 dX3_keep_49 rfl ?_ ?_
        · exact q_vret hC dX3_keep_62 (Nat.le_of_ble_eq_true rfl) (Nat.le_of_ble_eq_true rfl)
        · refine q_aload_n hC 1 dX3_keep_52 rfl rfl ?_
          refine q_dup hC dX3_keep_53 ?_
          refine q_getI hC (by decide) (by decide) rfl w_30 dX3_keep_54 (fun v14 => ?_)
          refine q_iconst hC dX3_keep_57 rfl ?_
          refine q_iadd hC dX3_keep_58 ?_
          refine q_putI hC (by decide) (by decide) rfl rfl w_30 dX3_keep_59 ?_
          exact q_vret hC dX3_keep_62 (Nat.le_of_ble_eq_true rfl) (Nat.le_of_ble_eq_true rfl)
  · exact c_no
theorem sX3_keep : Snd yX3_keep (.code yX3_keep cX3_keep 3 none) rmX3_keep SX3_keep := by
  refine Snd.of lX3_keep (by decide +kernel) (fun _ => rfl) ?_
  intro Γ hC hnt hnm J hJ L a
  match L with
  | 0 => exact pX3_keep_0 hC hnt J hJ a
  | L + 1 => exact c_no
/-! SpiritWall.addSight(IIIII)I -/
theorem dX10_addSight_0 : decode cX10_addSight 0 = .ok (.aload_n 0, 1) := by decide +kernel
theorem dX10_addSight_1 : decode cX10_addSight 1 = .ok (.iload_n 1, 1) := by decide +kernel
theorem dX10_addSight_2 : decode cX10_addSight 2 = .ok (.invokevirtual 170, 3) := by decide +kernel
theorem dX10_addSight_5 : decode cX10_addSight 5 = .ok (.aload_n 0, 1) := by decide +kernel
theorem dX10_addSight_6 : decode cX10_addSight 6 = .ok (.iload_n 2, 1) := by decide +kernel
theorem dX10_addSight_7 : decode cX10_addSight 7 = .ok (.invokevirtual 170, 3) := by decide +kernel
theorem dX10_addSight_10 : decode cX10_addSight 10 = .ok (.iload_n 1, 1) := by decide +kernel
theorem dX10_addSight_11 : decode cX10_addSight 11 = .ok (.iload_n 2, 1) := by decide +kernel
theorem dX10_addSight_12 : decode cX10_addSight 12 = .ok (.if_icmp .ne 14, 3) := by decide +kernel
theorem dX10_addSight_15 : decode cX10_addSight 15 = .ok (.new 207, 3) := by decide +kernel
theorem dX10_addSight_18 : decode cX10_addSight 18 = .ok (.dup, 1) := by decide +kernel
theorem dX10_addSight_19 : decode cX10_addSight 19 = .ok (.ldc_w 359, 3) := by decide +kernel
theorem dX10_addSight_22 : decode cX10_addSight 22 = .ok (.invokespecial 211, 3) := by decide +kernel
theorem dX10_addSight_25 : decode cX10_addSight 25 = .ok (.athrow, 1) := by decide +kernel
theorem dX10_addSight_26 : decode cX10_addSight 26 = .ok (.iload_n 3, 1) := by decide +kernel
theorem dX10_addSight_27 : decode cX10_addSight 27 = .ok (.iconst 0, 1) := by decide +kernel
theorem dX10_addSight_28 : decode cX10_addSight 28 = .ok (.iconst 1, 1) := by decide +kernel
theorem dX10_addSight_29 : decode cX10_addSight 29 = .ok (.invokestatic 260, 3) := by decide +kernel
theorem dX10_addSight_32 : decode cX10_addSight 32 = .ok (.iload 4, 2) := by decide +kernel
theorem dX10_addSight_34 : decode cX10_addSight 34 = .ok (.sipush (-9999), 3) := by decide +kernel
theorem dX10_addSight_37 : decode cX10_addSight 37 = .ok (.sipush 9999, 3) := by decide +kernel
theorem dX10_addSight_40 : decode cX10_addSight 40 = .ok (.invokestatic 260, 3) := by decide +kernel
theorem dX10_addSight_43 : decode cX10_addSight 43 = .ok (.iload 5, 2) := by decide +kernel
theorem dX10_addSight_45 : decode cX10_addSight 45 = .ok (.bipush (-40), 2) := by decide +kernel
theorem dX10_addSight_47 : decode cX10_addSight 47 = .ok (.bipush 60, 2) := by decide +kernel
theorem dX10_addSight_49 : decode cX10_addSight 49 = .ok (.invokestatic 260, 3) := by decide +kernel
theorem dX10_addSight_52 : decode cX10_addSight 52 = .ok (.aload_n 0, 1) := by decide +kernel
theorem dX10_addSight_53 : decode cX10_addSight 53 = .ok (.getfield 31, 3) := by decide +kernel
theorem dX10_addSight_56 : decode cX10_addSight 56 = .ok (.getfield 142, 3) := by decide +kernel
theorem dX10_addSight_59 : decode cX10_addSight 59 = .ok (.bipush 40, 2) := by decide +kernel
theorem dX10_addSight_61 : decode cX10_addSight 61 = .ok (.if_icmp .lt 14, 3) := by decide +kernel
theorem dX10_addSight_64 : decode cX10_addSight 64 = .ok (.new 361, 3) := by decide +kernel
theorem dX10_addSight_67 : decode cX10_addSight 67 = .ok (.dup, 1) := by decide +kernel
theorem dX10_addSight_68 : decode cX10_addSight 68 = .ok (.ldc_w 363, 3) := by decide +kernel
theorem dX10_addSight_71 : decode cX10_addSight 71 = .ok (.invokespecial 365, 3) := by decide +kernel
theorem dX10_addSight_74 : decode cX10_addSight 74 = .ok (.athrow, 1) := by decide +kernel
theorem dX10_addSight_75 : decode cX10_addSight 75 = .ok (.aload_n 0, 1) := by decide +kernel
theorem dX10_addSight_76 : decode cX10_addSight 76 = .ok (.getfield 44, 3) := by decide +kernel
theorem dX10_addSight_79 : decode cX10_addSight 79 = .ok (.aload_n 0, 1) := by decide +kernel
theorem dX10_addSight_80 : decode cX10_addSight 80 = .ok (.getfield 31, 3) := by decide +kernel
theorem dX10_addSight_83 : decode cX10_addSight 83 = .ok (.invokevirtual 366, 3) := by decide +kernel
theorem dX10_addSight_86 : decode cX10_addSight 86 = .ok (.aload_n 0, 1) := by decide +kernel
theorem dX10_addSight_87 : decode cX10_addSight 87 = .ok (.getfield 31, 3) := by decide +kernel
theorem dX10_addSight_90 : decode cX10_addSight 90 = .ok (.iload_n 1, 1) := by decide +kernel
theorem dX10_addSight_91 : decode cX10_addSight 91 = .ok (.iload_n 2, 1) := by decide +kernel
theorem dX10_addSight_92 : decode cX10_addSight 92 = .ok (.iload_n 3, 1) := by decide +kernel
theorem dX10_addSight_93 : decode cX10_addSight 93 = .ok (.iload 4, 2) := by decide +kernel
theorem dX10_addSight_95 : decode cX10_addSight 95 = .ok (.iload 5, 2) := by decide +kernel
theorem dX10_addSight_97 : decode cX10_addSight 97 = .ok (.invokevirtual 369, 3) := by decide +kernel
theorem dX10_addSight_100 : decode cX10_addSight 100 = .ok (.ireturn, 1) := by decide +kernel
def rmX10_addSight : Room := rmk 9 6 36 215
theorem nX10_addSight : nameOk yX10_addSight 5 = true := by decide +kernel
def bX10_addSight_0 (J : JT) : List Value → Sem
  | [.ref x0, .int x1, .int x2, .int x3, .int x4, .int x5] =>
    ob 10 x0 (cV SX10_needMark [.ref x0, .int x1] <|
    ob 10 x0 (cV SX10_needMark [.ref x0, .int x2] <|
    br (x1 = x2)
    (thr 2)
    (cV SX10_needRange [.int x3, .int 0, .int 1] <|
    cV SX10_needRange [.int x4, .int (-9999), .int 9999] <|
    cV SX10_needRange [.int x5, .int (-40), .int 60] <|
    gR 10 3 x0 fun r1 =>
    gI 6 6 r1 fun v2 =>
    br (v2 < (40 : Int32))
    (gR 10 6 x0 fun r3 =>
    gR 10 3 x0 fun r4 =>
    ob 3 r3 (cV SX3_keep [.ref r3, .ref r4] <|
    gR 10 3 x0 fun r5 =>
    ob 6 r5 (cI SX6_add [.ref r5, .int x1, .int x2, .int x3, .int x4, .int x5] fun v6 =>
    rI v6)))
    (thr 3))))
  | _ => no
def bX10_addSight (J : JT) : JT := fun L a => match L with
  | 0 => bX10_addSight_0 J a
  | _ => no
def SX10_addSight : ST := mk 6 bX10_addSight
def lX10_addSight (L : Nat) (a : List Value) : Nat × Nat × Nat × List (Nat × Value) × List Value := match L with
  | 0 => (0, 0, 0, lv_args 0 a, [])
  | _ => (0, 0, 0, [], [])
theorem pX10_addSight_0 {Γ : CT} (hC : Ctx Γ "SpiritWall" cX10_addSight 6 (some .int) rmX10_addSight) (hnt : NT Γ) (J : JT) (hJ : ∀ L a, Cor Γ 6 (lX10_addSight L a).1 (lX10_addSight L a).2.1 (lX10_addSight L a).2.2.1 (lX10_addSight L a).2.2.2.1 (lX10_addSight L a).2.2.2.2 (J L a)) (a : List Value) : Cor Γ 6 0 0 0 (lv_args 0 a) [] (bX10_addSight_0 J a) := by
  unfold bX10_addSight_0
  split
  · rename_i x0 x1 x2 x3 x4 x5
    refine c_sub [0, 1, 2, 3, 4, 5] rfl (loc' := [(0, .ref x0), (1, .int x1), (2, .int x2), (3, .int x3), (4, .int x4), (5, .int x5)]) ?_
    refine q_aload_n hC 0 dX10_addSight_0 rfl rfl ?_
    refine q_iload_n hC 1 dX10_addSight_1 rfl rfl ?_
    refine q_cVV hC hnt (stk := []) (as := [.int x1]) sX10_needMark (ci := 10) (by decide) rfl nX10_needMark rfl w_575 w_577 w_578 w_27 w_576 (Nat.le_of_ble_eq_true rfl) dX10_addSight_2 rfl ?_
    refine q_aload_n hC 0 dX10_addSight_5 rfl rfl ?_
    refine q_iload_n hC 2 dX10_addSight_6 rfl rfl ?_
    refine q_cVV hC hnt (stk := []) (as := [.int x2]) sX10_needMark (ci := 10) (by decide) rfl nX10_needMark rfl w_575 w_577 w_578 w_27 w_576 (Nat.le_of_ble_eq_true rfl) dX10_addSight_7 rfl ?_
    refine q_iload_n hC 1 dX10_addSight_10 rfl rfl ?_
    refine q_iload_n hC 2 dX10_addSight_11 rfl rfl ?_
    refine q_ic_ne hC 26 dX10_addSight_12 rfl ?_ ?_
    · refine q_iload_n hC 3 dX10_addSight_26 rfl rfl ?_
      refine q_iconst hC dX10_addSight_27 rfl ?_
      refine q_iconst hC dX10_addSight_28 rfl ?_
      refine q_cSV hC hnt (stk := []) (as := [.int x3, .int 0, .int 1]) sX10_needRange nX10_needRange rfl w_643 w_645 w_27 w_644 (Nat.le_of_ble_eq_true rfl) dX10_addSight_29 rfl ?_
      refine q_iload hC 4 dX10_addSight_32 rfl ?_
      refine q_sipush hC (v := (-9999)) dX10_addSight_34 rfl ?_
      refine q_sipush hC (v := 9999) dX10_addSight_37 rfl ?_
      refine q_cSV hC hnt (stk := []) (as := [.int x4, .int (-9999), .int 9999]) sX10_needRange nX10_needRange rfl w_643 w_645 w_27 w_644 (Nat.le_of_ble_eq_true rfl) dX10_addSight_40 rfl ?_
      refine q_iload hC 5 dX10_addSight_43 rfl ?_
      refine q_bipush hC (v := (-40)) dX10_addSight_45 rfl ?_
      refine q_bipush hC (v := 60) dX10_addSight_47 rfl ?_
      refine q_cSV hC hnt (stk := []) (as := [.int x5, .int (-40), .int 60]) sX10_needRange nX10_needRange rfl w_643 w_645 w_27 w_644 (Nat.le_of_ble_eq_true rfl) dX10_addSight_49 rfl ?_
      refine q_aload_n hC 0 dX10_addSight_52 rfl rfl ?_
      refine q_getR hC (by decide) (by decide) rfl w_133 dX10_addSight_53 (fun r1 => ?_)
      refine q_getI hC (by decide) (by decide) rfl w_560 dX10_addSight_56 (fun v2 => ?_)
      refine q_bipush hC (v := 40) dX10_addSight_59 rfl ?_
      refine q_ic_lt hC 75 dX10_addSight_61 rfl ?_ ?_
      · refine q_aload_n hC 0 dX10_addSight_75 rfl rfl ?_
        refine q_getR hC (by decide) (by decide) rfl w_140 dX10_addSight_76 (fun r3 => ?_)
        refine q_aload_n hC 0 dX10_addSight_79 rfl rfl ?_
        refine q_getR hC (by decide) (by decide) rfl w_133 dX10_addSight_80 (fun r4 => ?_)
        refine q_cVV hC hnt (stk := []) (as := [.ref r4]) sX3_keep (ci := 3) (by decide) rfl nX3_keep rfl w_767 w_769 w_770 w_139 w_768 (Nat.le_of_ble_eq_true rfl) dX10_addSight_83 rfl ?_
        refine q_aload_n hC 0 dX10_addSight_86 rfl rfl ?_
        refine q_getR hC (by decide) (by decide) rfl w_133 dX10_addSight_87 (fun r5 => ?_)
        refine q_iload_n hC 1 dX10_addSight_90 rfl rfl ?_
        refine q_iload_n hC 2 dX10_addSight_91 rfl rfl ?_
        refine q_iload_n hC 3 dX10_addSight_92 rfl rfl ?_
        refine q_iload hC 4 dX10_addSight_93 rfl ?_
        refine q_iload hC 5 dX10_addSight_95 rfl ?_
        refine q_cVI hC hnt (stk := []) (as := [.int x1, .int x2, .int x3, .int x4, .int x5]) sX6_add (ci := 6) (by decide) rfl nX6_add rfl w_771 w_282 w_283 w_35 w_281 (Nat.le_of_ble_eq_true rfl) dX10_addSight_97 rfl (fun v6 => ?_)
        exact q_iret hC dX10_addSight_100 (Nat.le_of_ble_eq_true rfl) (Nat.le_of_ble_eq_true rfl)
      · exact q_throwW hC (by decide) (by decide) (by decide +kernel) (i := 28) (tx := "there are 40 sights") (by decide +kernel) hnt dX10_addSight_64 dX10_addSight_67 dX10_addSight_68 dX10_addSight_71 dX10_addSight_74 (Nat.le_of_ble_eq_true rfl) (Nat.le_of_ble_eq_true rfl) ⟨(Nat.le_of_ble_eq_true rfl), (Nat.le_of_ble_eq_true rfl)⟩
    · exact q_throwW hC (by decide) (by decide) (by decide +kernel) (i := 27) (tx := "a sight goes to another mark") (by decide +kernel) hnt dX10_addSight_15 dX10_addSight_18 dX10_addSight_19 dX10_addSight_22 dX10_addSight_25 (Nat.le_of_ble_eq_true rfl) (Nat.le_of_ble_eq_true rfl) ⟨(Nat.le_of_ble_eq_true rfl), (Nat.le_of_ble_eq_true rfl)⟩
  · exact c_no
theorem sX10_addSight : Snd yX10_addSight (.code yX10_addSight cX10_addSight 6 (some .int)) rmX10_addSight SX10_addSight := by
  refine Snd.of lX10_addSight (by decide +kernel) (fun _ => rfl) ?_
  intro Γ hC hnt hnm J hJ L a
  match L with
  | 0 => exact pX10_addSight_0 hC hnt J hJ a
  | L + 1 => exact c_no
/-! SpiritWall.strike(IZ)Z -/
theorem dX10_strike_0 : decode cX10_strike 0 = .ok (.aload_n 0, 1) := by decide +kernel
theorem dX10_strike_1 : decode cX10_strike 1 = .ok (.iload_n 1, 1) := by decide +kernel
theorem dX10_strike_2 : decode cX10_strike 2 = .ok (.invokevirtual 221, 3) := by decide +kernel
theorem dX10_strike_5 : decode cX10_strike 5 = .ok (.aload_n 0, 1) := by decide +kernel
theorem dX10_strike_6 : decode cX10_strike 6 = .ok (.getfield 44, 3) := by decide +kernel
theorem dX10_strike_9 : decode cX10_strike 9 = .ok (.aload_n 0, 1) := by decide +kernel
theorem dX10_strike_10 : decode cX10_strike 10 = .ok (.getfield 31, 3) := by decide +kernel
theorem dX10_strike_13 : decode cX10_strike 13 = .ok (.invokevirtual 366, 3) := by decide +kernel
theorem dX10_strike_16 : decode cX10_strike 16 = .ok (.aload_n 0, 1) := by decide +kernel
theorem dX10_strike_17 : decode cX10_strike 17 = .ok (.getfield 31, 3) := by decide +kernel
theorem dX10_strike_20 : decode cX10_strike 20 = .ok (.iload_n 1, 1) := by decide +kernel
theorem dX10_strike_21 : decode cX10_strike 21 = .ok (.invokevirtual 340, 3) := by decide +kernel
theorem dX10_strike_24 : decode cX10_strike 24 = .ok (.ifCond .ne 7, 3) := by decide +kernel
theorem dX10_strike_27 : decode cX10_strike 27 = .ok (.iconst 1, 1) := by decide +kernel
theorem dX10_strike_28 : decode cX10_strike 28 = .ok (.goto 4, 3) := by decide +kernel
theorem dX10_strike_31 : decode cX10_strike 31 = .ok (.iconst 0, 1) := by decide +kernel
theorem dX10_strike_32 : decode cX10_strike 32 = .ok (.istore_n 3, 1) := by decide +kernel
theorem dX10_strike_33 : decode cX10_strike 33 = .ok (.aload_n 0, 1) := by decide +kernel
theorem dX10_strike_34 : decode cX10_strike 34 = .ok (.getfield 31, 3) := by decide +kernel
theorem dX10_strike_37 : decode cX10_strike 37 = .ok (.getfield 239, 3) := by decide +kernel
theorem dX10_strike_40 : decode cX10_strike 40 = .ok (.iload_n 1, 1) := by decide +kernel
theorem dX10_strike_41 : decode cX10_strike 41 = .ok (.iload_n 2, 1) := by decide +kernel
theorem dX10_strike_42 : decode cX10_strike 42 = .ok (.ifCond .eq 7, 3) := by decide +kernel
theorem dX10_strike_45 : decode cX10_strike 45 = .ok (.iconst 1, 1) := by decide +kernel
theorem dX10_strike_46 : decode cX10_strike 46 = .ok (.goto 4, 3) := by decide +kernel
theorem dX10_strike_49 : decode cX10_strike 49 = .ok (.iconst 0, 1) := by decide +kernel
theorem dX10_strike_50 : decode cX10_strike 50 = .ok (.invokestatic 373, 3) := by decide +kernel
theorem dX10_strike_53 : decode cX10_strike 53 = .ok (.iload_n 3, 1) := by decide +kernel
theorem dX10_strike_54 : decode cX10_strike 54 = .ok (.ireturn, 1) := by decide +kernel
def rmX10_strike : Room := rmk 9 1 6 215
theorem nX10_strike : nameOk yX10_strike 2 = true := by decide +kernel
def bX10_strike_0 (J : JT) : List Value → Sem
  | [.ref x0, .int x1, .int x2] =>
    ob 10 x0 (cV SX10_needSight [.ref x0, .int x1] <|
    gR 10 6 x0 fun r1 =>
    gR 10 3 x0 fun r2 =>
    ob 3 r1 (cV SX3_keep [.ref r1, .ref r2] <|
    gR 10 3 x0 fun r3 =>
    ob 6 r3 (cI SX6_counts [.ref r3, .int x1] fun v4 =>
    br (v4 = 0)
    (gR 10 3 x0 fun r7 =>
    gR 6 12 r7 fun r8 =>
    br (x2 = 0)
    (cV SX10_put [.ref r8, .int x1, .int 0] <|
    rZ 1)
    (cV SX10_put [.ref r8, .int x1, .int 1] <|
    rZ 1))
    (gR 10 3 x0 fun r5 =>
    gR 6 12 r5 fun r6 =>
    br (x2 = 0)
    (cV SX10_put [.ref r6, .int x1, .int 0] <|
    rZ 0)
    (cV SX10_put [.ref r6, .int x1, .int 1] <|
    rZ 0)))))
  | _ => no
def bX10_strike (J : JT) : JT := fun L a => match L with
  | 0 => bX10_strike_0 J a
  | _ => no
def SX10_strike : ST := mk 4 bX10_strike
def lX10_strike (L : Nat) (a : List Value) : Nat × Nat × Nat × List (Nat × Value) × List Value := match L with
  | 0 => (0, 0, 0, lv_args 0 a, [])
  | _ => (0, 0, 0, [], [])
theorem pX10_strike_0 {Γ : CT} (hC : Ctx Γ "SpiritWall" cX10_strike 4 (some .boolean) rmX10_strike) (hnt : NT Γ) (J : JT) (hJ : ∀ L a, Cor Γ 4 (lX10_strike L a).1 (lX10_strike L a).2.1 (lX10_strike L a).2.2.1 (lX10_strike L a).2.2.2.1 (lX10_strike L a).2.2.2.2 (J L a)) (a : List Value) : Cor Γ 4 0 0 0 (lv_args 0 a) [] (bX10_strike_0 J a) := by
  unfold bX10_strike_0
  split
  · rename_i x0 x1 x2
    refine c_sub [0, 1, 2] rfl (loc' := [(0, .ref x0), (1, .int x1), (2, .int x2)]) ?_
    refine q_aload_n hC 0 dX10_strike_0 rfl rfl ?_
    refine q_iload_n hC 1 dX10_strike_1 rfl rfl ?_
    refine q_cVV hC hnt (stk := []) (as := [.int x1]) sX10_needSight (ci := 10) (by decide) rfl nX10_needSight rfl w_623 w_625 w_626 w_27 w_624 (Nat.le_of_ble_eq_true rfl) dX10_strike_2 rfl ?_
    refine q_aload_n hC 0 dX10_strike_5 rfl rfl ?_
    refine q_getR hC (by decide) (by decide) rfl w_140 dX10_strike_6 (fun r1 => ?_)
    refine q_aload_n hC 0 dX10_strike_9 rfl rfl ?_
    refine q_getR hC (by decide) (by decide) rfl w_133 dX10_strike_10 (fun r2 => ?_)
    refine q_cVV hC hnt (stk := []) (as := [.ref r2]) sX3_keep (ci := 3) (by decide) rfl nX3_keep rfl w_767 w_769 w_770 w_139 w_768 (Nat.le_of_ble_eq_true rfl) dX10_strike_13 rfl ?_
    refine q_aload_n hC 0 dX10_strike_16 rfl rfl ?_
    refine q_getR hC (by decide) (by decide) rfl w_133 dX10_strike_17 (fun r3 => ?_)
    refine q_iload_n hC 1 dX10_strike_20 rfl rfl ?_
    refine q_cVI hC hnt (stk := []) (as := [.int x1]) sX6_counts (ci := 6) (by decide) rfl nX6_counts rfl w_718 w_394 w_395 w_35 w_393 (Nat.le_of_ble_eq_true rfl) dX10_strike_21 rfl (fun v4 => ?_)
    refine q_if_ne hC 31 dX10_strike_24 rfl ?_ ?_
    · refine q_iconst hC dX10_strike_31 rfl ?_
      refine q_istore_nA hC (loc' := [(3, .int 0), (0, .ref x0), (1, .int x1), (2, .int x2)]) dX10_strike_32 rfl (Nat.le_of_ble_eq_true rfl) rfl ?_
      refine q_aload_n hC 1 dX10_strike_33 rfl rfl ?_
      refine q_getR hC (by decide) (by decide) rfl w_133 dX10_strike_34 (fun r5 => ?_)
      refine q_getR hC (by decide) (by decide) rfl w_632 dX10_strike_37 (fun r6 => ?_)
      refine q_iload_n hC 2 dX10_strike_40 rfl rfl ?_
      refine q_iload_n hC 3 dX10_strike_41 rfl rfl ?_
      refine q_if_eq hC 49 dX10_strike_42 rfl ?_ ?_
      · refine q_iconst hC dX10_strike_49 rfl ?_
        refine q_cSV hC hnt (stk := []) (as := [.ref r6, .int x1, .int 0]) sX10_put nX10_put rfl w_409 w_187 w_27 w_186 (Nat.le_of_ble_eq_true rfl) dX10_strike_50 rfl ?_
        refine q_iload_n hC 0 dX10_strike_53 rfl rfl ?_
        exact q_zret hC dX10_strike_54 (Nat.le_of_ble_eq_true rfl) (Nat.le_of_ble_eq_true rfl)
      · refine q_iconst hC dX10_strike_45 rfl ?_
        refine q_goto hC 50 dX10_strike_46 rfl ?_
        refine q_cSV hC hnt (stk := []) (as := [.ref r6, .int x1, .int 1]) sX10_put nX10_put rfl w_409 w_187 w_27 w_186 (Nat.le_of_ble_eq_true rfl) dX10_strike_50 rfl ?_
        refine q_iload_n hC 0 dX10_strike_53 rfl rfl ?_
        exact q_zret hC dX10_strike_54 (Nat.le_of_ble_eq_true rfl) (Nat.le_of_ble_eq_true rfl)
    · refine q_iconst hC dX10_strike_27 rfl ?_
      refine q_goto hC 32 dX10_strike_28 rfl ?_
      refine q_istore_nA hC (loc' := [(3, .int 1), (0, .ref x0), (1, .int x1), (2, .int x2)]) dX10_strike_32 rfl (Nat.le_of_ble_eq_true rfl) rfl ?_
      refine q_aload_n hC 1 dX10_strike_33 rfl rfl ?_
      refine q_getR hC (by decide) (by decide) rfl w_133 dX10_strike_34 (fun r7 => ?_)
      refine q_getR hC (by decide) (by decide) rfl w_632 dX10_strike_37 (fun r8 => ?_)
      refine q_iload_n hC 2 dX10_strike_40 rfl rfl ?_
      refine q_iload_n hC 3 dX10_strike_41 rfl rfl ?_
      refine q_if_eq hC 49 dX10_strike_42 rfl ?_ ?_
      · refine q_iconst hC dX10_strike_49 rfl ?_
        refine q_cSV hC hnt (stk := []) (as := [.ref r8, .int x1, .int 0]) sX10_put nX10_put rfl w_409 w_187 w_27 w_186 (Nat.le_of_ble_eq_true rfl) dX10_strike_50 rfl ?_
        refine q_iload_n hC 0 dX10_strike_53 rfl rfl ?_
        exact q_zret hC dX10_strike_54 (Nat.le_of_ble_eq_true rfl) (Nat.le_of_ble_eq_true rfl)
      · refine q_iconst hC dX10_strike_45 rfl ?_
        refine q_goto hC 50 dX10_strike_46 rfl ?_
        refine q_cSV hC hnt (stk := []) (as := [.ref r8, .int x1, .int 1]) sX10_put nX10_put rfl w_409 w_187 w_27 w_186 (Nat.le_of_ble_eq_true rfl) dX10_strike_50 rfl ?_
        refine q_iload_n hC 0 dX10_strike_53 rfl rfl ?_
        exact q_zret hC dX10_strike_54 (Nat.le_of_ble_eq_true rfl) (Nat.le_of_ble_eq_true rfl)
  · exact c_no
theorem sX10_strike : Snd yX10_strike (.code yX10_strike cX10_strike 4 (some .boolean)) rmX10_strike SX10_strike := by
  refine Snd.of lX10_strike (by decide +kernel) (fun _ => rfl) ?_
  intro Γ hC hnt hnm J hJ L a
  match L with
  | 0 => exact pX10_strike_0 hC hnt J hJ a
  | L + 1 => exact c_no
/-! SpiritWall.swap(II)I -/
theorem dX10_swap_0 : decode cX10_swap 0 = .ok (.aload_n 0, 1) := by decide +kernel
theorem dX10_swap_1 : decode cX10_swap 1 = .ok (.iload_n 1, 1) := by decide +kernel
theorem dX10_swap_2 : decode cX10_swap 2 = .ok (.invokevirtual 221, 3) := by decide +kernel
theorem dX10_swap_5 : decode cX10_swap 5 = .ok (.iload_n 2, 1) := by decide +kernel
theorem dX10_swap_6 : decode cX10_swap 6 = .ok (.sipush (-9999), 3) := by decide +kernel
theorem dX10_swap_9 : decode cX10_swap 9 = .ok (.sipush 9999, 3) := by decide +kernel
theorem dX10_swap_12 : decode cX10_swap 12 = .ok (.invokestatic 260, 3) := by decide +kernel
theorem dX10_swap_15 : decode cX10_swap 15 = .ok (.aload_n 0, 1) := by decide +kernel
theorem dX10_swap_16 : decode cX10_swap 16 = .ok (.getfield 44, 3) := by decide +kernel
theorem dX10_swap_19 : decode cX10_swap 19 = .ok (.aload_n 0, 1) := by decide +kernel
theorem dX10_swap_20 : decode cX10_swap 20 = .ok (.getfield 31, 3) := by decide +kernel
theorem dX10_swap_23 : decode cX10_swap 23 = .ok (.invokevirtual 366, 3) := by decide +kernel
theorem dX10_swap_26 : decode cX10_swap 26 = .ok (.aload_n 0, 1) := by decide +kernel
theorem dX10_swap_27 : decode cX10_swap 27 = .ok (.getfield 31, 3) := by decide +kernel
theorem dX10_swap_30 : decode cX10_swap 30 = .ok (.getfield 230, 3) := by decide +kernel
theorem dX10_swap_33 : decode cX10_swap 33 = .ok (.iload_n 1, 1) := by decide +kernel
theorem dX10_swap_34 : decode cX10_swap 34 = .ok (.invokestatic 190, 3) := by decide +kernel
theorem dX10_swap_37 : decode cX10_swap 37 = .ok (.ifCond .ne 7, 3) := by decide +kernel
theorem dX10_swap_40 : decode cX10_swap 40 = .ok (.iconst 1, 1) := by decide +kernel
theorem dX10_swap_41 : decode cX10_swap 41 = .ok (.goto 4, 3) := by decide +kernel
theorem dX10_swap_44 : decode cX10_swap 44 = .ok (.iconst 0, 1) := by decide +kernel
theorem dX10_swap_45 : decode cX10_swap 45 = .ok (.istore_n 3, 1) := by decide +kernel
theorem dX10_swap_46 : decode cX10_swap 46 = .ok (.aload_n 0, 1) := by decide +kernel
theorem dX10_swap_47 : decode cX10_swap 47 = .ok (.getfield 31, 3) := by decide +kernel
theorem dX10_swap_50 : decode cX10_swap 50 = .ok (.getfield 233, 3) := by decide +kernel
theorem dX10_swap_53 : decode cX10_swap 53 = .ok (.iload_n 1, 1) := by decide +kernel
theorem dX10_swap_54 : decode cX10_swap 54 = .ok (.iload_n 2, 1) := by decide +kernel
theorem dX10_swap_55 : decode cX10_swap 55 = .ok (.invokestatic 373, 3) := by decide +kernel
theorem dX10_swap_58 : decode cX10_swap 58 = .ok (.aload_n 0, 1) := by decide +kernel
theorem dX10_swap_59 : decode cX10_swap 59 = .ok (.getfield 31, 3) := by decide +kernel
theorem dX10_swap_62 : decode cX10_swap 62 = .ok (.getfield 230, 3) := by decide +kernel
theorem dX10_swap_65 : decode cX10_swap 65 = .ok (.iload_n 1, 1) := by decide +kernel
theorem dX10_swap_66 : decode cX10_swap 66 = .ok (.iload_n 3, 1) := by decide +kernel
theorem dX10_swap_67 : decode cX10_swap 67 = .ok (.invokestatic 373, 3) := by decide +kernel
theorem dX10_swap_70 : decode cX10_swap 70 = .ok (.iload_n 3, 1) := by decide +kernel
theorem dX10_swap_71 : decode cX10_swap 71 = .ok (.ireturn, 1) := by decide +kernel
def rmX10_swap : Room := rmk 9 2 12 215
theorem nX10_swap : nameOk yX10_swap 2 = true := by decide +kernel
def bX10_swap_0 (J : JT) : List Value → Sem
  | [.ref x0, .int x1, .int x2] =>
    ob 10 x0 (cV SX10_needSight [.ref x0, .int x1] <|
    cV SX10_needRange [.int x2, .int (-9999), .int 9999] <|
    gR 10 6 x0 fun r1 =>
    gR 10 3 x0 fun r2 =>
    ob 3 r1 (cV SX3_keep [.ref r1, .ref r2] <|
    gR 10 3 x0 fun r3 =>
    gR 6 9 r3 fun r4 =>
    cI SX10_cell [.ref r4, .int x1] fun v5 =>
    br (v5 = 0)
    (gR 10 3 x0 fun r10 =>
    gR 6 10 r10 fun r11 =>
    cV SX10_put [.ref r11, .int x1, .int x2] <|
    gR 10 3 x0 fun r12 =>
    gR 6 9 r12 fun r13 =>
    cV SX10_put [.ref r13, .int x1, .int 1] <|
    rI 1)
    (gR 10 3 x0 fun r6 =>
    gR 6 10 r6 fun r7 =>
    cV SX10_put [.ref r7, .int x1, .int x2] <|
    gR 10 3 x0 fun r8 =>
    gR 6 9 r8 fun r9 =>
    cV SX10_put [.ref r9, .int x1, .int 0] <|
    rI 0)))
  | _ => no
def bX10_swap (J : JT) : JT := fun L a => match L with
  | 0 => bX10_swap_0 J a
  | _ => no
def SX10_swap : ST := mk 4 bX10_swap
def lX10_swap (L : Nat) (a : List Value) : Nat × Nat × Nat × List (Nat × Value) × List Value := match L with
  | 0 => (0, 0, 0, lv_args 0 a, [])
  | _ => (0, 0, 0, [], [])
theorem pX10_swap_0 {Γ : CT} (hC : Ctx Γ "SpiritWall" cX10_swap 4 (some .int) rmX10_swap) (hnt : NT Γ) (J : JT) (hJ : ∀ L a, Cor Γ 4 (lX10_swap L a).1 (lX10_swap L a).2.1 (lX10_swap L a).2.2.1 (lX10_swap L a).2.2.2.1 (lX10_swap L a).2.2.2.2 (J L a)) (a : List Value) : Cor Γ 4 0 0 0 (lv_args 0 a) [] (bX10_swap_0 J a) := by
  unfold bX10_swap_0
  split
  · rename_i x0 x1 x2
    refine c_sub [0, 1, 2] rfl (loc' := [(0, .ref x0), (1, .int x1), (2, .int x2)]) ?_
    refine q_aload_n hC 0 dX10_swap_0 rfl rfl ?_
    refine q_iload_n hC 1 dX10_swap_1 rfl rfl ?_
    refine q_cVV hC hnt (stk := []) (as := [.int x1]) sX10_needSight (ci := 10) (by decide) rfl nX10_needSight rfl w_623 w_625 w_626 w_27 w_624 (Nat.le_of_ble_eq_true rfl) dX10_swap_2 rfl ?_
    refine q_iload_n hC 2 dX10_swap_5 rfl rfl ?_
    refine q_sipush hC (v := (-9999)) dX10_swap_6 rfl ?_
    refine q_sipush hC (v := 9999) dX10_swap_9 rfl ?_
    refine q_cSV hC hnt (stk := []) (as := [.int x2, .int (-9999), .int 9999]) sX10_needRange nX10_needRange rfl w_643 w_645 w_27 w_644 (Nat.le_of_ble_eq_true rfl) dX10_swap_12 rfl ?_
    refine q_aload_n hC 0 dX10_swap_15 rfl rfl ?_
    refine q_getR hC (by decide) (by decide) rfl w_140 dX10_swap_16 (fun r1 => ?_)
    refine q_aload_n hC 0 dX10_swap_19 rfl rfl ?_
    refine q_getR hC (by decide) (by decide) rfl w_133 dX10_swap_20 (fun r2 => ?_)
    refine q_cVV hC hnt (stk := []) (as := [.ref r2]) sX3_keep (ci := 3) (by decide) rfl nX3_keep rfl w_767 w_769 w_770 w_139 w_768 (Nat.le_of_ble_eq_true rfl) dX10_swap_23 rfl ?_
    refine q_aload_n hC 0 dX10_swap_26 rfl rfl ?_
    refine q_getR hC (by decide) (by decide) rfl w_133 dX10_swap_27 (fun r3 => ?_)
    refine q_getR hC (by decide) (by decide) rfl w_629 dX10_swap_30 (fun r4 => ?_)
    refine q_iload_n hC 1 dX10_swap_33 rfl rfl ?_
    refine q_cSI hC hnt (stk := []) (as := [.ref r4, .int x1]) sX10_cell nX10_cell rfl w_408 w_202 w_27 w_201 (Nat.le_of_ble_eq_true rfl) dX10_swap_34 rfl (fun v5 => ?_)
    refine q_if_ne hC 44 dX10_swap_37 rfl ?_ ?_
    · refine q_iconst hC dX10_swap_44 rfl ?_
      refine q_istore_nA hC (loc' := [(3, .int 0), (0, .ref x0), (1, .int x1), (2, .int x2)]) dX10_swap_45 rfl (Nat.le_of_ble_eq_true rfl) rfl ?_
      refine q_aload_n hC 1 dX10_swap_46 rfl rfl ?_
      refine q_getR hC (by decide) (by decide) rfl w_133 dX10_swap_47 (fun r6 => ?_)
      refine q_getR hC (by decide) (by decide) rfl w_630 dX10_swap_50 (fun r7 => ?_)
      refine q_iload_n hC 2 dX10_swap_53 rfl rfl ?_
      refine q_iload_n hC 3 dX10_swap_54 rfl rfl ?_
      refine q_cSV hC hnt (stk := []) (as := [.ref r7, .int x1, .int x2]) sX10_put nX10_put rfl w_409 w_187 w_27 w_186 (Nat.le_of_ble_eq_true rfl) dX10_swap_55 rfl ?_
      refine q_aload_n hC 1 dX10_swap_58 rfl rfl ?_
      refine q_getR hC (by decide) (by decide) rfl w_133 dX10_swap_59 (fun r8 => ?_)
      refine q_getR hC (by decide) (by decide) rfl w_629 dX10_swap_62 (fun r9 => ?_)
      refine q_iload_n hC 2 dX10_swap_65 rfl rfl ?_
      refine q_iload_n hC 0 dX10_swap_66 rfl rfl ?_
      refine q_cSV hC hnt (stk := []) (as := [.ref r9, .int x1, .int 0]) sX10_put nX10_put rfl w_409 w_187 w_27 w_186 (Nat.le_of_ble_eq_true rfl) dX10_swap_67 rfl ?_
      refine q_iload_n hC 0 dX10_swap_70 rfl rfl ?_
      exact q_iret hC dX10_swap_71 (Nat.le_of_ble_eq_true rfl) (Nat.le_of_ble_eq_true rfl)
    · refine q_iconst hC dX10_swap_40 rfl ?_
      refine q_goto hC 45 dX10_swap_41 rfl ?_
      refine q_istore_nA hC (loc' := [(3, .int 1), (0, .ref x0), (1, .int x1), (2, .int x2)]) dX10_swap_45 rfl (Nat.le_of_ble_eq_true rfl) rfl ?_
      refine q_aload_n hC 1 dX10_swap_46 rfl rfl ?_
      refine q_getR hC (by decide) (by decide) rfl w_133 dX10_swap_47 (fun r10 => ?_)
      refine q_getR hC (by decide) (by decide) rfl w_630 dX10_swap_50 (fun r11 => ?_)
      refine q_iload_n hC 2 dX10_swap_53 rfl rfl ?_
      refine q_iload_n hC 3 dX10_swap_54 rfl rfl ?_
      refine q_cSV hC hnt (stk := []) (as := [.ref r11, .int x1, .int x2]) sX10_put nX10_put rfl w_409 w_187 w_27 w_186 (Nat.le_of_ble_eq_true rfl) dX10_swap_55 rfl ?_
      refine q_aload_n hC 1 dX10_swap_58 rfl rfl ?_
      refine q_getR hC (by decide) (by decide) rfl w_133 dX10_swap_59 (fun r12 => ?_)
      refine q_getR hC (by decide) (by decide) rfl w_629 dX10_swap_62 (fun r13 => ?_)
      refine q_iload_n hC 2 dX10_swap_65 rfl rfl ?_
      refine q_iload_n hC 0 dX10_swap_66 rfl rfl ?_
      refine q_cSV hC hnt (stk := []) (as := [.ref r13, .int x1, .int 1]) sX10_put nX10_put rfl w_409 w_187 w_27 w_186 (Nat.le_of_ble_eq_true rfl) dX10_swap_67 rfl ?_
      refine q_iload_n hC 0 dX10_swap_70 rfl rfl ?_
      exact q_iret hC dX10_swap_71 (Nat.le_of_ble_eq_true rfl) (Nat.le_of_ble_eq_true rfl)
  · exact c_no
theorem sX10_swap : Snd yX10_swap (.code yX10_swap cX10_swap 4 (some .int)) rmX10_swap SX10_swap := by
  refine Snd.of lX10_swap (by decide +kernel) (fun _ => rfl) ?_
  intro Γ hC hnt hnm J hJ L a
  match L with
  | 0 => exact pX10_swap_0 hC hnt J hJ a
  | L + 1 => exact c_no
/-! SpiritWall.fix(II)Z -/
theorem dX10_fix_0 : decode cX10_fix 0 = .ok (.aload_n 0, 1) := by decide +kernel
theorem dX10_fix_1 : decode cX10_fix 1 = .ok (.iload_n 1, 1) := by decide +kernel
theorem dX10_fix_2 : decode cX10_fix 2 = .ok (.invokevirtual 170, 3) := by decide +kernel
theorem dX10_fix_5 : decode cX10_fix 5 = .ok (.iload_n 2, 1) := by decide +kernel
theorem dX10_fix_6 : decode cX10_fix 6 = .ok (.ldc_w 377, 3) := by decide +kernel
theorem dX10_fix_9 : decode cX10_fix 9 = .ok (.ldc_w 378, 3) := by decide +kernel
theorem dX10_fix_12 : decode cX10_fix 12 = .ok (.invokestatic 260, 3) := by decide +kernel
theorem dX10_fix_15 : decode cX10_fix 15 = .ok (.aload_n 0, 1) := by decide +kernel
theorem dX10_fix_16 : decode cX10_fix 16 = .ok (.getfield 44, 3) := by decide +kernel
theorem dX10_fix_19 : decode cX10_fix 19 = .ok (.aload_n 0, 1) := by decide +kernel
theorem dX10_fix_20 : decode cX10_fix 20 = .ok (.getfield 31, 3) := by decide +kernel
theorem dX10_fix_23 : decode cX10_fix 23 = .ok (.invokevirtual 366, 3) := by decide +kernel
theorem dX10_fix_26 : decode cX10_fix 26 = .ok (.aload_n 0, 1) := by decide +kernel
theorem dX10_fix_27 : decode cX10_fix 27 = .ok (.getfield 31, 3) := by decide +kernel
theorem dX10_fix_30 : decode cX10_fix 30 = .ok (.iload_n 1, 1) := by decide +kernel
theorem dX10_fix_31 : decode cX10_fix 31 = .ok (.invokevirtual 379, 3) := by decide +kernel
theorem dX10_fix_34 : decode cX10_fix 34 = .ok (.istore_n 3, 1) := by decide +kernel
theorem dX10_fix_35 : decode cX10_fix 35 = .ok (.aload_n 0, 1) := by decide +kernel
theorem dX10_fix_36 : decode cX10_fix 36 = .ok (.getfield 31, 3) := by decide +kernel
theorem dX10_fix_39 : decode cX10_fix 39 = .ok (.iload_n 1, 1) := by decide +kernel
theorem dX10_fix_40 : decode cX10_fix 40 = .ok (.iload_n 2, 1) := by decide +kernel
theorem dX10_fix_41 : decode cX10_fix 41 = .ok (.invokevirtual 382, 3) := by decide +kernel
theorem dX10_fix_44 : decode cX10_fix 44 = .ok (.iload_n 3, 1) := by decide +kernel
theorem dX10_fix_45 : decode cX10_fix 45 = .ok (.ireturn, 1) := by decide +kernel
def rmX10_fix : Room := rmk 9 2 12 216
theorem nX10_fix : nameOk yX10_fix 2 = true := by decide +kernel
def bX10_fix_0 (J : JT) : List Value → Sem
  | [.ref x0, .int x1, .int x2] =>
    ob 10 x0 (cV SX10_needMark [.ref x0, .int x1] <|
    cV SX10_needRange [.int x2, .int (-99999), .int 99999] <|
    gR 10 6 x0 fun r1 =>
    gR 10 3 x0 fun r2 =>
    ob 3 r1 (cV SX3_keep [.ref r1, .ref r2] <|
    gR 10 3 x0 fun r3 =>
    ob 6 r3 (cI SX6_isBench [.ref r3, .int x1] fun v4 =>
    gR 10 3 x0 fun r5 =>
    ob 6 r5 (cV SX6_makeBench [.ref r5, .int x1, .int x2] <|
    rZ v4))))
  | _ => no
def bX10_fix (J : JT) : JT := fun L a => match L with
  | 0 => bX10_fix_0 J a
  | _ => no
def SX10_fix : ST := mk 4 bX10_fix
def lX10_fix (L : Nat) (a : List Value) : Nat × Nat × Nat × List (Nat × Value) × List Value := match L with
  | 0 => (0, 0, 0, lv_args 0 a, [])
  | _ => (0, 0, 0, [], [])
theorem pX10_fix_0 {Γ : CT} (hC : Ctx Γ "SpiritWall" cX10_fix 4 (some .boolean) rmX10_fix) (hnt : NT Γ) (J : JT) (hJ : ∀ L a, Cor Γ 4 (lX10_fix L a).1 (lX10_fix L a).2.1 (lX10_fix L a).2.2.1 (lX10_fix L a).2.2.2.1 (lX10_fix L a).2.2.2.2 (J L a)) (a : List Value) : Cor Γ 4 0 0 0 (lv_args 0 a) [] (bX10_fix_0 J a) := by
  unfold bX10_fix_0
  split
  · rename_i x0 x1 x2
    refine c_sub [0, 1, 2] rfl (loc' := [(0, .ref x0), (1, .int x1), (2, .int x2)]) ?_
    refine q_aload_n hC 0 dX10_fix_0 rfl rfl ?_
    refine q_iload_n hC 1 dX10_fix_1 rfl rfl ?_
    refine q_cVV hC hnt (stk := []) (as := [.int x1]) sX10_needMark (ci := 10) (by decide) rfl nX10_needMark rfl w_575 w_577 w_578 w_27 w_576 (Nat.le_of_ble_eq_true rfl) dX10_fix_2 rfl ?_
    refine q_iload_n hC 2 dX10_fix_5 rfl rfl ?_
    refine q_ldcw hC w_772 dX10_fix_6 ?_
    refine q_ldcw hC w_773 dX10_fix_9 ?_
    refine q_cSV hC hnt (stk := []) (as := [.int x2, .int (-99999), .int 99999]) sX10_needRange nX10_needRange rfl w_643 w_645 w_27 w_644 (Nat.le_of_ble_eq_true rfl) dX10_fix_12 rfl ?_
    refine q_aload_n hC 0 dX10_fix_15 rfl rfl ?_
    refine q_getR hC (by decide) (by decide) rfl w_140 dX10_fix_16 (fun r1 => ?_)
    refine q_aload_n hC 0 dX10_fix_19 rfl rfl ?_
    refine q_getR hC (by decide) (by decide) rfl w_133 dX10_fix_20 (fun r2 => ?_)
    refine q_cVV hC hnt (stk := []) (as := [.ref r2]) sX3_keep (ci := 3) (by decide) rfl nX3_keep rfl w_767 w_769 w_770 w_139 w_768 (Nat.le_of_ble_eq_true rfl) dX10_fix_23 rfl ?_
    refine q_aload_n hC 0 dX10_fix_26 rfl rfl ?_
    refine q_getR hC (by decide) (by decide) rfl w_133 dX10_fix_27 (fun r3 => ?_)
    refine q_iload_n hC 1 dX10_fix_30 rfl rfl ?_
    refine q_cVI hC hnt (stk := []) (as := [.int x1]) sX6_isBench (ci := 6) (by decide) rfl nX6_isBench rfl w_614 w_616 w_617 w_35 w_615 (Nat.le_of_ble_eq_true rfl) dX10_fix_31 rfl (fun v4 => ?_)
    refine q_istore_nA hC (loc' := [(3, .int v4), (0, .ref x0), (1, .int x1), (2, .int x2)]) dX10_fix_34 rfl (Nat.le_of_ble_eq_true rfl) rfl ?_
    refine q_aload_n hC 1 dX10_fix_35 rfl rfl ?_
    refine q_getR hC (by decide) (by decide) rfl w_133 dX10_fix_36 (fun r5 => ?_)
    refine q_iload_n hC 2 dX10_fix_39 rfl rfl ?_
    refine q_iload_n hC 3 dX10_fix_40 rfl rfl ?_
    refine q_cVV hC hnt (stk := []) (as := [.int x1, .int x2]) sX6_makeBench (ci := 6) (by decide) rfl nX6_makeBench rfl w_774 w_273 w_274 w_35 w_272 (Nat.le_of_ble_eq_true rfl) dX10_fix_41 rfl ?_
    refine q_iload_n hC 0 dX10_fix_44 rfl rfl ?_
    exact q_zret hC dX10_fix_45 (Nat.le_of_ble_eq_true rfl) (Nat.le_of_ble_eq_true rfl)
  · exact c_no
theorem sX10_fix : Snd yX10_fix (.code yX10_fix cX10_fix 4 (some .boolean)) rmX10_fix SX10_fix := by
  refine Snd.of lX10_fix (by decide +kernel) (fun _ => rfl) ?_
  intro Γ hC hnt hnm J hJ L a
  match L with
  | 0 => exact pX10_fix_0 hC hnt J hJ a
  | L + 1 => exact c_no
/-! SpiritWall.free(I)I -/
theorem dX10_free_0 : decode cX10_free 0 = .ok (.aload_n 0, 1) := by decide +kernel
theorem dX10_free_1 : decode cX10_free 1 = .ok (.iload_n 1, 1) := by decide +kernel
theorem dX10_free_2 : decode cX10_free 2 = .ok (.invokevirtual 170, 3) := by decide +kernel
theorem dX10_free_5 : decode cX10_free 5 = .ok (.aload_n 0, 1) := by decide +kernel
theorem dX10_free_6 : decode cX10_free 6 = .ok (.getfield 31, 3) := by decide +kernel
theorem dX10_free_9 : decode cX10_free 9 = .ok (.iload_n 1, 1) := by decide +kernel
theorem dX10_free_10 : decode cX10_free 10 = .ok (.invokevirtual 379, 3) := by decide +kernel
theorem dX10_free_13 : decode cX10_free 13 = .ok (.ifCond .ne 14, 3) := by decide +kernel
theorem dX10_free_16 : decode cX10_free 16 = .ok (.new 361, 3) := by decide +kernel
theorem dX10_free_19 : decode cX10_free 19 = .ok (.dup, 1) := by decide +kernel
theorem dX10_free_20 : decode cX10_free 20 = .ok (.ldc_w 385, 3) := by decide +kernel
theorem dX10_free_23 : decode cX10_free 23 = .ok (.invokespecial 365, 3) := by decide +kernel
theorem dX10_free_26 : decode cX10_free 26 = .ok (.athrow, 1) := by decide +kernel
theorem dX10_free_27 : decode cX10_free 27 = .ok (.aload_n 0, 1) := by decide +kernel
theorem dX10_free_28 : decode cX10_free 28 = .ok (.getfield 44, 3) := by decide +kernel
theorem dX10_free_31 : decode cX10_free 31 = .ok (.aload_n 0, 1) := by decide +kernel
theorem dX10_free_32 : decode cX10_free 32 = .ok (.getfield 31, 3) := by decide +kernel
theorem dX10_free_35 : decode cX10_free 35 = .ok (.invokevirtual 366, 3) := by decide +kernel
theorem dX10_free_38 : decode cX10_free 38 = .ok (.aload_n 0, 1) := by decide +kernel
theorem dX10_free_39 : decode cX10_free 39 = .ok (.getfield 31, 3) := by decide +kernel
theorem dX10_free_42 : decode cX10_free 42 = .ok (.getfield 194, 3) := by decide +kernel
theorem dX10_free_45 : decode cX10_free 45 = .ok (.iload_n 1, 1) := by decide +kernel
theorem dX10_free_46 : decode cX10_free 46 = .ok (.iconst 0, 1) := by decide +kernel
theorem dX10_free_47 : decode cX10_free 47 = .ok (.invokestatic 373, 3) := by decide +kernel
theorem dX10_free_50 : decode cX10_free 50 = .ok (.aload_n 0, 1) := by decide +kernel
theorem dX10_free_51 : decode cX10_free 51 = .ok (.getfield 31, 3) := by decide +kernel
theorem dX10_free_54 : decode cX10_free 54 = .ok (.invokevirtual 138, 3) := by decide +kernel
theorem dX10_free_57 : decode cX10_free 57 = .ok (.ireturn, 1) := by decide +kernel
def rmX10_free : Room := rmk 9 2 12 215
theorem nX10_free : nameOk yX10_free 1 = true := by decide +kernel
def bX10_free_0 (J : JT) : List Value → Sem
  | [.ref x0, .int x1] =>
    ob 10 x0 (cV SX10_needMark [.ref x0, .int x1] <|
    gR 10 3 x0 fun r1 =>
    ob 6 r1 (cI SX6_isBench [.ref r1, .int x1] fun v2 =>
    br (v2 = 0)
    (thr 3)
    (gR 10 6 x0 fun r3 =>
    gR 10 3 x0 fun r4 =>
    ob 3 r3 (cV SX3_keep [.ref r3, .ref r4] <|
    gR 10 3 x0 fun r5 =>
    gR 6 3 r5 fun r6 =>
    cV SX10_put [.ref r6, .int x1, .int 0] <|
    gR 10 3 x0 fun r7 =>
    ob 6 r7 (cI SX6_benches [.ref r7] fun v8 =>
    rI v8)))))
  | _ => no
def bX10_free (J : JT) : JT := fun L a => match L with
  | 0 => bX10_free_0 J a
  | _ => no
def SX10_free : ST := mk 2 bX10_free
def lX10_free (L : Nat) (a : List Value) : Nat × Nat × Nat × List (Nat × Value) × List Value := match L with
  | 0 => (0, 0, 0, lv_args 0 a, [])
  | _ => (0, 0, 0, [], [])
theorem pX10_free_0 {Γ : CT} (hC : Ctx Γ "SpiritWall" cX10_free 2 (some .int) rmX10_free) (hnt : NT Γ) (J : JT) (hJ : ∀ L a, Cor Γ 2 (lX10_free L a).1 (lX10_free L a).2.1 (lX10_free L a).2.2.1 (lX10_free L a).2.2.2.1 (lX10_free L a).2.2.2.2 (J L a)) (a : List Value) : Cor Γ 2 0 0 0 (lv_args 0 a) [] (bX10_free_0 J a) := by
  unfold bX10_free_0
  split
  · rename_i x0 x1
    refine c_sub [0, 1] rfl (loc' := [(0, .ref x0), (1, .int x1)]) ?_
    refine q_aload_n hC 0 dX10_free_0 rfl rfl ?_
    refine q_iload_n hC 1 dX10_free_1 rfl rfl ?_
    refine q_cVV hC hnt (stk := []) (as := [.int x1]) sX10_needMark (ci := 10) (by decide) rfl nX10_needMark rfl w_575 w_577 w_578 w_27 w_576 (Nat.le_of_ble_eq_true rfl) dX10_free_2 rfl ?_
    refine q_aload_n hC 0 dX10_free_5 rfl rfl ?_
    refine q_getR hC (by decide) (by decide) rfl w_133 dX10_free_6 (fun r1 => ?_)
    refine q_iload_n hC 1 dX10_free_9 rfl rfl ?_
    refine q_cVI hC hnt (stk := []) (as := [.int x1]) sX6_isBench (ci := 6) (by decide) rfl nX6_isBench rfl w_614 w_616 w_617 w_35 w_615 (Nat.le_of_ble_eq_true rfl) dX10_free_10 rfl (fun v2 => ?_)
    refine q_if_ne hC 27 dX10_free_13 rfl ?_ ?_
    · refine q_aload_n hC 0 dX10_free_27 rfl rfl ?_
      refine q_getR hC (by decide) (by decide) rfl w_140 dX10_free_28 (fun r3 => ?_)
      refine q_aload_n hC 0 dX10_free_31 rfl rfl ?_
      refine q_getR hC (by decide) (by decide) rfl w_133 dX10_free_32 (fun r4 => ?_)
      refine q_cVV hC hnt (stk := []) (as := [.ref r4]) sX3_keep (ci := 3) (by decide) rfl nX3_keep rfl w_767 w_769 w_770 w_139 w_768 (Nat.le_of_ble_eq_true rfl) dX10_free_35 rfl ?_
      refine q_aload_n hC 0 dX10_free_38 rfl rfl ?_
      refine q_getR hC (by decide) (by decide) rfl w_133 dX10_free_39 (fun r5 => ?_)
      refine q_getR hC (by decide) (by decide) rfl w_595 dX10_free_42 (fun r6 => ?_)
      refine q_iload_n hC 1 dX10_free_45 rfl rfl ?_
      refine q_iconst hC dX10_free_46 rfl ?_
      refine q_cSV hC hnt (stk := []) (as := [.ref r6, .int x1, .int 0]) sX10_put nX10_put rfl w_409 w_187 w_27 w_186 (Nat.le_of_ble_eq_true rfl) dX10_free_47 rfl ?_
      refine q_aload_n hC 0 dX10_free_50 rfl rfl ?_
      refine q_getR hC (by decide) (by decide) rfl w_133 dX10_free_51 (fun r7 => ?_)
      refine q_cVI hC hnt (stk := []) (as := []) sX6_benches (ci := 6) (by decide) rfl nX6_benches rfl w_556 w_558 w_559 w_35 w_557 (Nat.le_of_ble_eq_true rfl) dX10_free_54 rfl (fun v8 => ?_)
      exact q_iret hC dX10_free_57 (Nat.le_of_ble_eq_true rfl) (Nat.le_of_ble_eq_true rfl)
    · exact q_throwW hC (by decide) (by decide) (by decide +kernel) (i := 29) (tx := "this mark is no bench") (by decide +kernel) hnt dX10_free_16 dX10_free_19 dX10_free_20 dX10_free_23 dX10_free_26 (Nat.le_of_ble_eq_true rfl) (Nat.le_of_ble_eq_true rfl) ⟨(Nat.le_of_ble_eq_true rfl), (Nat.le_of_ble_eq_true rfl)⟩
  · exact c_no
theorem sX10_free : Snd yX10_free (.code yX10_free cX10_free 2 (some .int)) rmX10_free SX10_free := by
  refine Snd.of lX10_free (by decide +kernel) (fun _ => rfl) ?_
  intro Γ hC hnt hnm J hJ L a
  match L with
  | 0 => exact pX10_free_0 hC hnt J hJ a
  | L + 1 => exact c_no
