/-! SpiritWallModel.addSight(IIIII)I -/
theorem dX11_addSight_0 : decode cX11_addSight 0 = .ok (.aload_n 0, 1) := by decide +kernel
theorem dX11_addSight_1 : decode cX11_addSight 1 = .ok (.aload_n 0, 1) := by decide +kernel
theorem dX11_addSight_2 : decode cX11_addSight 2 = .ok (.iload_n 1, 1) := by decide +kernel
theorem dX11_addSight_3 : decode cX11_addSight 3 = .ok (.iload_n 2, 1) := by decide +kernel
theorem dX11_addSight_4 : decode cX11_addSight 4 = .ok (.invokevirtual 277, 3) := by decide +kernel
theorem dX11_addSight_7 : decode cX11_addSight 7 = .ok (.invokevirtual 77, 3) := by decide +kernel
theorem dX11_addSight_10 : decode cX11_addSight 10 = .ok (.ifCond .eq 76, 3) := by decide +kernel
theorem dX11_addSight_13 : decode cX11_addSight 13 = .ok (.aload_n 0, 1) := by decide +kernel
theorem dX11_addSight_14 : decode cX11_addSight 14 = .ok (.iload_n 1, 1) := by decide +kernel
theorem dX11_addSight_15 : decode cX11_addSight 15 = .ok (.iload_n 2, 1) := by decide +kernel
theorem dX11_addSight_16 : decode cX11_addSight 16 = .ok (.if_icmp .eq 40, 3) := by decide +kernel
theorem dX11_addSight_19 : decode cX11_addSight 19 = .ok (.iload_n 3, 1) := by decide +kernel
theorem dX11_addSight_20 : decode cX11_addSight 20 = .ok (.i2l, 1) := by decide +kernel
theorem dX11_addSight_21 : decode cX11_addSight 21 = .ok (.lconst 0, 1) := by decide +kernel
theorem dX11_addSight_22 : decode cX11_addSight 22 = .ok (.lconst 1, 1) := by decide +kernel
theorem dX11_addSight_23 : decode cX11_addSight 23 = .ok (.invokestatic 89, 3) := by decide +kernel
theorem dX11_addSight_26 : decode cX11_addSight 26 = .ok (.ifCond .eq 30, 3) := by decide +kernel
theorem dX11_addSight_29 : decode cX11_addSight 29 = .ok (.iload 4, 2) := by decide +kernel
theorem dX11_addSight_31 : decode cX11_addSight 31 = .ok (.invokestatic 355, 3) := by decide +kernel
theorem dX11_addSight_34 : decode cX11_addSight 34 = .ok (.ifCond .eq 22, 3) := by decide +kernel
theorem dX11_addSight_37 : decode cX11_addSight 37 = .ok (.iload 5, 2) := by decide +kernel
theorem dX11_addSight_39 : decode cX11_addSight 39 = .ok (.i2l, 1) := by decide +kernel
theorem dX11_addSight_40 : decode cX11_addSight 40 = .ok (.ldc2_w 358, 3) := by decide +kernel
theorem dX11_addSight_43 : decode cX11_addSight 43 = .ok (.ldc2_w 360, 3) := by decide +kernel
theorem dX11_addSight_46 : decode cX11_addSight 46 = .ok (.invokestatic 89, 3) := by decide +kernel
theorem dX11_addSight_49 : decode cX11_addSight 49 = .ok (.ifCond .eq 7, 3) := by decide +kernel
theorem dX11_addSight_52 : decode cX11_addSight 52 = .ok (.iconst 1, 1) := by decide +kernel
theorem dX11_addSight_53 : decode cX11_addSight 53 = .ok (.goto 4, 3) := by decide +kernel
theorem dX11_addSight_56 : decode cX11_addSight 56 = .ok (.iconst 0, 1) := by decide +kernel
theorem dX11_addSight_57 : decode cX11_addSight 57 = .ok (.iconst 2, 1) := by decide +kernel
theorem dX11_addSight_58 : decode cX11_addSight 58 = .ok (.invokevirtual 283, 3) := by decide +kernel
theorem dX11_addSight_61 : decode cX11_addSight 61 = .ok (.ifCond .eq 25, 3) := by decide +kernel
theorem dX11_addSight_64 : decode cX11_addSight 64 = .ok (.aload_n 0, 1) := by decide +kernel
theorem dX11_addSight_65 : decode cX11_addSight 65 = .ok (.aload_n 0, 1) := by decide +kernel
theorem dX11_addSight_66 : decode cX11_addSight 66 = .ok (.invokevirtual 97, 3) := by decide +kernel
theorem dX11_addSight_69 : decode cX11_addSight 69 = .ok (.bipush 40, 2) := by decide +kernel
theorem dX11_addSight_71 : decode cX11_addSight 71 = .ok (.if_icmp .ge 7, 3) := by decide +kernel
theorem dX11_addSight_74 : decode cX11_addSight 74 = .ok (.iconst 1, 1) := by decide +kernel
theorem dX11_addSight_75 : decode cX11_addSight 75 = .ok (.goto 4, 3) := by decide +kernel
theorem dX11_addSight_78 : decode cX11_addSight 78 = .ok (.iconst 0, 1) := by decide +kernel
theorem dX11_addSight_79 : decode cX11_addSight 79 = .ok (.iconst 3, 1) := by decide +kernel
theorem dX11_addSight_80 : decode cX11_addSight 80 = .ok (.invokevirtual 283, 3) := by decide +kernel
theorem dX11_addSight_83 : decode cX11_addSight 83 = .ok (.ifCond .ne 5, 3) := by decide +kernel
theorem dX11_addSight_86 : decode cX11_addSight 86 = .ok (.iconst 0, 1) := by decide +kernel
theorem dX11_addSight_87 : decode cX11_addSight 87 = .ok (.ireturn, 1) := by decide +kernel
theorem dX11_addSight_88 : decode cX11_addSight 88 = .ok (.aload_n 0, 1) := by decide +kernel
theorem dX11_addSight_89 : decode cX11_addSight 89 = .ok (.invokevirtual 362, 3) := by decide +kernel
theorem dX11_addSight_92 : decode cX11_addSight 92 = .ok (.aload_n 0, 1) := by decide +kernel
theorem dX11_addSight_93 : decode cX11_addSight 93 = .ok (.aload_n 0, 1) := by decide +kernel
theorem dX11_addSight_94 : decode cX11_addSight 94 = .ok (.iload_n 1, 1) := by decide +kernel
theorem dX11_addSight_95 : decode cX11_addSight 95 = .ok (.iload_n 2, 1) := by decide +kernel
theorem dX11_addSight_96 : decode cX11_addSight 96 = .ok (.iload_n 3, 1) := by decide +kernel
theorem dX11_addSight_97 : decode cX11_addSight 97 = .ok (.iload 4, 2) := by decide +kernel
theorem dX11_addSight_99 : decode cX11_addSight 99 = .ok (.iload 5, 2) := by decide +kernel
theorem dX11_addSight_101 : decode cX11_addSight 101 = .ok (.invokevirtual 365, 3) := by decide +kernel
theorem dX11_addSight_104 : decode cX11_addSight 104 = .ok (.invokevirtual 369, 3) := by decide +kernel
theorem dX11_addSight_107 : decode cX11_addSight 107 = .ok (.ireturn, 1) := by decide +kernel
def rmX11_addSight : Room := rmk 9 0 0 218
theorem nX11_addSight : nameOk yX11_addSight 5 = true := by decide +kernel
def bX11_addSight_0 (J : JT) : List Value → Sem
  | [.ref x0, .int x1, .int x2, .int x3, .int x4, .int x5] =>
    ob 11 x0 (cI SX11_areMarks [.ref x0, .int x1, .int x2] fun v1 =>
    ob 11 x0 (cI SX11_is [.ref x0, .int v1] fun v2 =>
    br (v2 = 0)
    (rI 0)
    (br (x1 = x2)
    (ob 11 x0 (cI SX11_may [.ref x0, .int 0, .int 2] fun v3 =>
    br (v3 = 0)
    (rI 0)
    (ob 11 x0 (cI SX11_sights [.ref x0] fun v4 =>
    br ((40 : Int32) ≤ v4)
    (ob 11 x0 (cI SX11_may [.ref x0, .int 0, .int 3] fun v5 =>
    br (v5 = 0)
    (rI 0)
    (ob 11 x0 (cV SX11_starts [.ref x0] <|
    ob 11 x0 (cI SX11_addsSight [.ref x0, .int x1, .int x2, .int x3, .int x4, .int x5] fun v6 =>
    ob 11 x0 (cI SX11_done [.ref x0, .int v6] fun v7 =>
    rI v7))))))
    (ob 11 x0 (cI SX11_may [.ref x0, .int 1, .int 3] fun v8 =>
    br (v8 = 0)
    (rI 0)
    (ob 11 x0 (cV SX11_starts [.ref x0] <|
    ob 11 x0 (cI SX11_addsSight [.ref x0, .int x1, .int x2, .int x3, .int x4, .int x5] fun v9 =>
    ob 11 x0 (cI SX11_done [.ref x0, .int v9] fun v10 =>
    rI v10))))))))))
    (cI SX11_isIn [.long (x3.toInt64), .long 0, .long 1] fun v11 =>
    br (v11 = 0)
    (ob 11 x0 (cI SX11_may [.ref x0, .int 0, .int 2] fun v12 =>
    br (v12 = 0)
    (rI 0)
    (ob 11 x0 (cI SX11_sights [.ref x0] fun v13 =>
    br ((40 : Int32) ≤ v13)
    (ob 11 x0 (cI SX11_may [.ref x0, .int 0, .int 3] fun v14 =>
    br (v14 = 0)
    (rI 0)
    (ob 11 x0 (cV SX11_starts [.ref x0] <|
    ob 11 x0 (cI SX11_addsSight [.ref x0, .int x1, .int x2, .int x3, .int x4, .int x5] fun v15 =>
    ob 11 x0 (cI SX11_done [.ref x0, .int v15] fun v16 =>
    rI v16))))))
    (ob 11 x0 (cI SX11_may [.ref x0, .int 1, .int 3] fun v17 =>
    br (v17 = 0)
    (rI 0)
    (ob 11 x0 (cV SX11_starts [.ref x0] <|
    ob 11 x0 (cI SX11_addsSight [.ref x0, .int x1, .int x2, .int x3, .int x4, .int x5] fun v18 =>
    ob 11 x0 (cI SX11_done [.ref x0, .int v18] fun v19 =>
    rI v19))))))))))
    (cI SX11_isReading [.int x4] fun v20 =>
    br (v20 = 0)
    (ob 11 x0 (cI SX11_may [.ref x0, .int 0, .int 2] fun v21 =>
    br (v21 = 0)
    (rI 0)
    (ob 11 x0 (cI SX11_sights [.ref x0] fun v22 =>
    br ((40 : Int32) ≤ v22)
    (ob 11 x0 (cI SX11_may [.ref x0, .int 0, .int 3] fun v23 =>
    br (v23 = 0)
    (rI 0)
    (ob 11 x0 (cV SX11_starts [.ref x0] <|
    ob 11 x0 (cI SX11_addsSight [.ref x0, .int x1, .int x2, .int x3, .int x4, .int x5] fun v24 =>
    ob 11 x0 (cI SX11_done [.ref x0, .int v24] fun v25 =>
    rI v25))))))
    (ob 11 x0 (cI SX11_may [.ref x0, .int 1, .int 3] fun v26 =>
    br (v26 = 0)
    (rI 0)
    (ob 11 x0 (cV SX11_starts [.ref x0] <|
    ob 11 x0 (cI SX11_addsSight [.ref x0, .int x1, .int x2, .int x3, .int x4, .int x5] fun v27 =>
    ob 11 x0 (cI SX11_done [.ref x0, .int v27] fun v28 =>
    rI v28))))))))))
    (cI SX11_isIn [.long (x5.toInt64), .long (-40), .long 60] fun v29 =>
    br (v29 = 0)
    (ob 11 x0 (cI SX11_may [.ref x0, .int 0, .int 2] fun v30 =>
    br (v30 = 0)
    (rI 0)
    (ob 11 x0 (cI SX11_sights [.ref x0] fun v31 =>
    br ((40 : Int32) ≤ v31)
    (ob 11 x0 (cI SX11_may [.ref x0, .int 0, .int 3] fun v32 =>
    br (v32 = 0)
    (rI 0)
    (ob 11 x0 (cV SX11_starts [.ref x0] <|
    ob 11 x0 (cI SX11_addsSight [.ref x0, .int x1, .int x2, .int x3, .int x4, .int x5] fun v33 =>
    ob 11 x0 (cI SX11_done [.ref x0, .int v33] fun v34 =>
    rI v34))))))
    (ob 11 x0 (cI SX11_may [.ref x0, .int 1, .int 3] fun v35 =>
    br (v35 = 0)
    (rI 0)
    (ob 11 x0 (cV SX11_starts [.ref x0] <|
    ob 11 x0 (cI SX11_addsSight [.ref x0, .int x1, .int x2, .int x3, .int x4, .int x5] fun v36 =>
    ob 11 x0 (cI SX11_done [.ref x0, .int v36] fun v37 =>
    rI v37))))))))))
    (ob 11 x0 (cI SX11_may [.ref x0, .int 1, .int 2] fun v38 =>
    br (v38 = 0)
    (rI 0)
    (ob 11 x0 (cI SX11_sights [.ref x0] fun v39 =>
    br ((40 : Int32) ≤ v39)
    (ob 11 x0 (cI SX11_may [.ref x0, .int 0, .int 3] fun v40 =>
    br (v40 = 0)
    (rI 0)
    (ob 11 x0 (cV SX11_starts [.ref x0] <|
    ob 11 x0 (cI SX11_addsSight [.ref x0, .int x1, .int x2, .int x3, .int x4, .int x5] fun v41 =>
    ob 11 x0 (cI SX11_done [.ref x0, .int v41] fun v42 =>
    rI v42))))))
    (ob 11 x0 (cI SX11_may [.ref x0, .int 1, .int 3] fun v43 =>
    br (v43 = 0)
    (rI 0)
    (ob 11 x0 (cV SX11_starts [.ref x0] <|
    ob 11 x0 (cI SX11_addsSight [.ref x0, .int x1, .int x2, .int x3, .int x4, .int x5] fun v44 =>
    ob 11 x0 (cI SX11_done [.ref x0, .int v44] fun v45 =>
    rI v45))))))))))))))))
  | _ => no
def bX11_addSight (J : JT) : JT := fun L a => match L with
  | 0 => bX11_addSight_0 J a
  | _ => no
def SX11_addSight : ST := mk 6 bX11_addSight
def lX11_addSight (L : Nat) (a : List Value) : Nat × Nat × Nat × List (Nat × Value) × List Value := match L with
  | 0 => (0, 0, 0, lv_args 0 a, [])
  | _ => (0, 0, 0, [], [])
theorem pX11_addSight_0 {Γ : CT} (hC : Ctx Γ "SpiritWallModel" cX11_addSight 6 (some .int) rmX11_addSight) (hnt : NT Γ) (J : JT) (hJ : ∀ L a, Cor Γ 6 (lX11_addSight L a).1 (lX11_addSight L a).2.1 (lX11_addSight L a).2.2.1 (lX11_addSight L a).2.2.2.1 (lX11_addSight L a).2.2.2.2 (J L a)) (a : List Value) : Cor Γ 6 0 0 0 (lv_args 0 a) [] (bX11_addSight_0 J a) := by
  unfold bX11_addSight_0
  split
  · rename_i x0 x1 x2 x3 x4 x5
    refine c_sub [0, 1, 2, 3, 4, 5] rfl (loc' := [(0, .ref x0), (1, .int x1), (2, .int x2), (3, .int x3), (4, .int x4), (5, .int x5)]) ?_
    refine q_aload_n hC 0 dX11_addSight_0 rfl rfl ?_
    refine q_aload_n hC 0 dX11_addSight_1 rfl rfl ?_
    refine q_iload_n hC 1 dX11_addSight_2 rfl rfl ?_
    refine q_iload_n hC 2 dX11_addSight_3 rfl rfl ?_
    refine q_cVI hC hnt (stk := [.ref x0]) (as := [.int x1, .int x2]) sX11_areMarks (ci := 11) (by decide) rfl nX11_areMarks rfl w_1057 w_1059 w_1060 w_830 w_1058 (Nat.le_of_ble_eq_true rfl) dX11_addSight_4 rfl (fun v1 => ?_)
    refine q_cVI hC hnt (stk := []) (as := [.int v1]) sX11_is (ci := 11) (by decide) rfl nX11_is rfl w_838 w_840 w_841 w_830 w_839 (Nat.le_of_ble_eq_true rfl) dX11_addSight_7 rfl (fun v2 => ?_)
    refine q_if_eq hC 86 dX11_addSight_10 rfl ?_ ?_
    · refine q_iconst hC dX11_addSight_86 rfl ?_
      exact q_iret hC dX11_addSight_87 (Nat.le_of_ble_eq_true rfl) (Nat.le_of_ble_eq_true rfl)
    · refine q_aload_n hC 0 dX11_addSight_13 rfl rfl ?_
      refine q_iload_n hC 1 dX11_addSight_14 rfl rfl ?_
      refine q_iload_n hC 2 dX11_addSight_15 rfl rfl ?_
      refine q_ic_eq hC 56 dX11_addSight_16 rfl ?_ ?_
      · refine q_iconst hC dX11_addSight_56 rfl ?_
        refine q_iconst hC dX11_addSight_57 rfl ?_
        refine q_cVI hC hnt (stk := []) (as := [.int 0, .int 2]) sX11_may (ci := 11) (by decide) rfl nX11_may rfl w_1065 w_1067 w_1068 w_830 w_1066 (Nat.le_of_ble_eq_true rfl) dX11_addSight_58 rfl (fun v3 => ?_)
        refine q_if_eq hC 86 dX11_addSight_61 rfl ?_ ?_
        · refine q_iconst hC dX11_addSight_86 rfl ?_
          exact q_iret hC dX11_addSight_87 (Nat.le_of_ble_eq_true rfl) (Nat.le_of_ble_eq_true rfl)
        · refine q_aload_n hC 0 dX11_addSight_64 rfl rfl ?_
          refine q_aload_n hC 0 dX11_addSight_65 rfl rfl ?_
          refine q_cVI hC hnt (stk := [.ref x0]) (as := []) sX11_sights (ci := 11) (by decide) rfl nX11_sights rfl w_854 w_856 w_857 w_830 w_855 (Nat.le_of_ble_eq_true rfl) dX11_addSight_66 rfl (fun v4 => ?_)
          refine q_bipush hC (v := 40) dX11_addSight_69 rfl ?_
          refine q_ic_ge hC 78 dX11_addSight_71 rfl ?_ ?_
          · refine q_iconst hC dX11_addSight_78 rfl ?_
            refine q_iconst hC dX11_addSight_79 rfl ?_
            refine q_cVI hC hnt (stk := []) (as := [.int 0, .int 3]) sX11_may (ci := 11) (by decide) rfl nX11_may rfl w_1065 w_1067 w_1068 w_830 w_1066 (Nat.le_of_ble_eq_true rfl) dX11_addSight_80 rfl (fun v5 => ?_)
            refine q_if_ne hC 88 dX11_addSight_83 rfl ?_ ?_
            · refine q_aload_n hC 0 dX11_addSight_88 rfl rfl ?_
              refine q_cVV hC hnt (stk := []) (as := []) sX11_starts (ci := 11) (by decide) rfl nX11_starts rfl w_1147 w_1149 w_1150 w_830 w_1148 (Nat.le_of_ble_eq_true rfl) dX11_addSight_89 rfl ?_
              refine q_aload_n hC 0 dX11_addSight_92 rfl rfl ?_
              refine q_aload_n hC 0 dX11_addSight_93 rfl rfl ?_
              refine q_iload_n hC 1 dX11_addSight_94 rfl rfl ?_
              refine q_iload_n hC 2 dX11_addSight_95 rfl rfl ?_
              refine q_iload_n hC 3 dX11_addSight_96 rfl rfl ?_
              refine q_iload hC 4 dX11_addSight_97 rfl ?_
              refine q_iload hC 5 dX11_addSight_99 rfl ?_
              refine q_cVI hC hnt (stk := [.ref x0]) (as := [.int x1, .int x2, .int x3, .int x4, .int x5]) sX11_addsSight (ci := 11) (by decide) rfl nX11_addsSight rfl w_1151 w_1153 w_1154 w_830 w_1152 (Nat.le_of_ble_eq_true rfl) dX11_addSight_101 rfl (fun v6 => ?_)
              refine q_cVI hC hnt (stk := []) (as := [.int v6]) sX11_done (ci := 11) (by decide) rfl nX11_done rfl w_1155 w_1157 w_1158 w_830 w_1156 (Nat.le_of_ble_eq_true rfl) dX11_addSight_104 rfl (fun v7 => ?_)
              exact q_iret hC dX11_addSight_107 (Nat.le_of_ble_eq_true rfl) (Nat.le_of_ble_eq_true rfl)
            · refine q_iconst hC dX11_addSight_86 rfl ?_
              exact q_iret hC dX11_addSight_87 (Nat.le_of_ble_eq_true rfl) (Nat.le_of_ble_eq_true rfl)
          · refine q_iconst hC dX11_addSight_74 rfl ?_
            refine q_goto hC 79 dX11_addSight_75 rfl ?_
            refine q_iconst hC dX11_addSight_79 rfl ?_
            refine q_cVI hC hnt (stk := []) (as := [.int 1, .int 3]) sX11_may (ci := 11) (by decide) rfl nX11_may rfl w_1065 w_1067 w_1068 w_830 w_1066 (Nat.le_of_ble_eq_true rfl) dX11_addSight_80 rfl (fun v8 => ?_)
            refine q_if_ne hC 88 dX11_addSight_83 rfl ?_ ?_
            · refine q_aload_n hC 0 dX11_addSight_88 rfl rfl ?_
              refine q_cVV hC hnt (stk := []) (as := []) sX11_starts (ci := 11) (by decide) rfl nX11_starts rfl w_1147 w_1149 w_1150 w_830 w_1148 (Nat.le_of_ble_eq_true rfl) dX11_addSight_89 rfl ?_
              refine q_aload_n hC 0 dX11_addSight_92 rfl rfl ?_
              refine q_aload_n hC 0 dX11_addSight_93 rfl rfl ?_
              refine q_iload_n hC 1 dX11_addSight_94 rfl rfl ?_
              refine q_iload_n hC 2 dX11_addSight_95 rfl rfl ?_
              refine q_iload_n hC 3 dX11_addSight_96 rfl rfl ?_
              refine q_iload hC 4 dX11_addSight_97 rfl ?_
              refine q_iload hC 5 dX11_addSight_99 rfl ?_
              refine q_cVI hC hnt (stk := [.ref x0]) (as := [.int x1, .int x2, .int x3, .int x4, .int x5]) sX11_addsSight (ci := 11) (by decide) rfl nX11_addsSight rfl w_1151 w_1153 w_1154 w_830 w_1152 (Nat.le_of_ble_eq_true rfl) dX11_addSight_101 rfl (fun v9 => ?_)
              refine q_cVI hC hnt (stk := []) (as := [.int v9]) sX11_done (ci := 11) (by decide) rfl nX11_done rfl w_1155 w_1157 w_1158 w_830 w_1156 (Nat.le_of_ble_eq_true rfl) dX11_addSight_104 rfl (fun v10 => ?_)
              exact q_iret hC dX11_addSight_107 (Nat.le_of_ble_eq_true rfl) (Nat.le_of_ble_eq_true rfl)
            · refine q_iconst hC dX11_addSight_86 rfl ?_
              exact q_iret hC dX11_addSight_87 (Nat.le_of_ble_eq_true rfl) (Nat.le_of_ble_eq_true rfl)
      · refine q_iload_n hC 3 dX11_addSight_19 rfl rfl ?_
        refine q_i2l hC dX11_addSight_20 ?_
        refine q_lconst hC (v := 0) dX11_addSight_21 rfl ?_
        refine q_lconst hC (v := 1) dX11_addSight_22 rfl ?_
        refine q_cSI hC hnt (stk := [.ref x0]) (as := [.long (x3.toInt64), .long 0, .long 1]) sX11_isIn nX11_isIn rfl w_847 w_849 w_830 w_848 (Nat.le_of_ble_eq_true rfl) dX11_addSight_23 rfl (fun v11 => ?_)
        refine q_if_eq hC 56 dX11_addSight_26 rfl ?_ ?_
        · refine q_iconst hC dX11_addSight_56 rfl ?_
          refine q_iconst hC dX11_addSight_57 rfl ?_
          refine q_cVI hC hnt (stk := []) (as := [.int 0, .int 2]) sX11_may (ci := 11) (by decide) rfl nX11_may rfl w_1065 w_1067 w_1068 w_830 w_1066 (Nat.le_of_ble_eq_true rfl) dX11_addSight_58 rfl (fun v12 => ?_)
          refine q_if_eq hC 86 dX11_addSight_61 rfl ?_ ?_
          · refine q_iconst hC dX11_addSight_86 rfl ?_
            exact q_iret hC dX11_addSight_87 (Nat.le_of_ble_eq_true rfl) (Nat.le_of_ble_eq_true rfl)
          · refine q_aload_n hC 0 dX11_addSight_64 rfl rfl ?_
            refine q_aload_n hC 0 dX11_addSight_65 rfl rfl ?_
            refine q_cVI hC hnt (stk := [.ref x0]) (as := []) sX11_sights (ci := 11) (by decide) rfl nX11_sights rfl w_854 w_856 w_857 w_830 w_855 (Nat.le_of_ble_eq_true rfl) dX11_addSight_66 rfl (fun v13 => ?_)
            refine q_bipush hC (v := 40) dX11_addSight_69 rfl ?_
            refine q_ic_ge hC 78 dX11_addSight_71 rfl ?_ ?_
            · refine q_iconst hC dX11_addSight_78 rfl ?_
              refine q_iconst hC dX11_addSight_79 rfl ?_
              refine q_cVI hC hnt (stk := []) (as := [.int 0, .int 3]) sX11_may (ci := 11) (by decide) rfl nX11_may rfl w_1065 w_1067 w_1068 w_830 w_1066 (Nat.le_of_ble_eq_true rfl) dX11_addSight_80 rfl (fun v14 => ?_)
              refine q_if_ne hC 88 dX11_addSight_83 rfl ?_ ?_
              · refine q_aload_n hC 0 dX11_addSight_88 rfl rfl ?_
                refine q_cVV hC hnt (stk := []) (as := []) sX11_starts (ci := 11) (by decide) rfl nX11_starts rfl w_1147 w_1149 w_1150 w_830 w_1148 (Nat.le_of_ble_eq_true rfl) dX11_addSight_89 rfl ?_
                refine q_aload_n hC 0 dX11_addSight_92 rfl rfl ?_
                refine q_aload_n hC 0 dX11_addSight_93 rfl rfl ?_
                refine q_iload_n hC 1 dX11_addSight_94 rfl rfl ?_
                refine q_iload_n hC 2 dX11_addSight_95 rfl rfl ?_
                refine q_iload_n hC 3 dX11_addSight_96 rfl rfl ?_
                refine q_iload hC 4 dX11_addSight_97 rfl ?_
                refine q_iload hC 5 dX11_addSight_99 rfl ?_
                refine q_cVI hC hnt (stk := [.ref x0]) (as := [.int x1, .int x2, .int x3, .int x4, .int x5]) sX11_addsSight (ci := 11) (by decide) rfl nX11_addsSight rfl w_1151 w_1153 w_1154 w_830 w_1152 (Nat.le_of_ble_eq_true rfl) dX11_addSight_101 rfl (fun v15 => ?_)
                refine q_cVI hC hnt (stk := []) (as := [.int v15]) sX11_done (ci := 11) (by decide) rfl nX11_done rfl w_1155 w_1157 w_1158 w_830 w_1156 (Nat.le_of_ble_eq_true rfl) dX11_addSight_104 rfl (fun v16 => ?_)
                exact q_iret hC dX11_addSight_107 (Nat.le_of_ble_eq_true rfl) (Nat.le_of_ble_eq_true rfl)
              · refine q_iconst hC dX11_addSight_86 rfl ?_
                exact q_iret hC dX11_addSight_87 (Nat.le_of_ble_eq_true rfl) (Nat.le_of_ble_eq_true rfl)
            · refine q_iconst hC dX11_addSight_74 rfl ?_
              refine q_goto hC 79 dX11_addSight_75 rfl ?_
              refine q_iconst hC dX11_addSight_79 rfl ?_
              refine q_cVI hC hnt (stk := []) (as := [.int 1, .int 3]) sX11_may (ci := 11) (by decide) rfl nX11_may rfl w_1065 w_1067 w_1068 w_830 w_1066 (Nat.le_of_ble_eq_true rfl) dX11_addSight_80 rfl (fun v17 => ?_)
              refine q_if_ne hC 88 dX11_addSight_83 rfl ?_ ?_
              · refine q_aload_n hC 0 dX11_addSight_88 rfl rfl ?_
                refine q_cVV hC hnt (stk := []) (as := []) sX11_starts (ci := 11) (by decide) rfl nX11_starts rfl w_1147 w_1149 w_1150 w_830 w_1148 (Nat.le_of_ble_eq_true rfl) dX11_addSight_89 rfl ?_
                refine q_aload_n hC 0 dX11_addSight_92 rfl rfl ?_
                refine q_aload_n hC 0 dX11_addSight_93 rfl rfl ?_
                refine q_iload_n hC 1 dX11_addSight_94 rfl rfl ?_
                refine q_iload_n hC 2 dX11_addSight_95 rfl rfl ?_
                refine q_iload_n hC 3 dX11_addSight_96 rfl rfl ?_
                refine q_iload hC 4 dX11_addSight_97 rfl ?_
                refine q_iload hC 5 dX11_addSight_99 rfl ?_
                refine q_cVI hC hnt (stk := [.ref x0]) (as := [.int x1, .int x2, .int x3, .int x4, .int x5]) sX11_addsSight (ci := 11) (by decide) rfl nX11_addsSight rfl w_1151 w_1153 w_1154 w_830 w_1152 (Nat.le_of_ble_eq_true rfl) dX11_addSight_101 rfl (fun v18 => ?_)
                refine q_cVI hC hnt (stk := []) (as := [.int v18]) sX11_done (ci := 11) (by decide) rfl nX11_done rfl w_1155 w_1157 w_1158 w_830 w_1156 (Nat.le_of_ble_eq_true rfl) dX11_addSight_104 rfl (fun v19 => ?_)
                exact q_iret hC dX11_addSight_107 (Nat.le_of_ble_eq_true rfl) (Nat.le_of_ble_eq_true rfl)
              · refine q_iconst hC dX11_addSight_86 rfl ?_
                exact q_iret hC dX11_addSight_87 (Nat.le_of_ble_eq_true rfl) (Nat.le_of_ble_eq_true rfl)
        · refine q_iload hC 4 dX11_addSight_29 rfl ?_
          refine q_cSI hC hnt (stk := [.ref x0]) (as := [.int x4]) sX11_isReading nX11_isReading rfl w_1159 w_1161 w_830 w_1160 (Nat.le_of_ble_eq_true rfl) dX11_addSight_31 rfl (fun v20 => ?_)
          refine q_if_eq hC 56 dX11_addSight_34 rfl ?_ ?_
          · refine q_iconst hC dX11_addSight_56 rfl ?_
            refine q_iconst hC dX11_addSight_57 rfl ?_
            refine q_cVI hC hnt (stk := []) (as := [.int 0, .int 2]) sX11_may (ci := 11) (by decide) rfl nX11_may rfl w_1065 w_1067 w_1068 w_830 w_1066 (Nat.le_of_ble_eq_true rfl) dX11_addSight_58 rfl (fun v21 => ?_)
            refine q_if_eq hC 86 dX11_addSight_61 rfl ?_ ?_
            · refine q_iconst hC dX11_addSight_86 rfl ?_
              exact q_iret hC dX11_addSight_87 (Nat.le_of_ble_eq_true rfl) (Nat.le_of_ble_eq_true rfl)
            · refine q_aload_n hC 0 dX11_addSight_64 rfl rfl ?_
              refine q_aload_n hC 0 dX11_addSight_65 rfl rfl ?_
              refine q_cVI hC hnt (stk := [.ref x0]) (as := []) sX11_sights (ci := 11) (by decide) rfl nX11_sights rfl w_854 w_856 w_857 w_830 w_855 (Nat.le_of_ble_eq_true rfl) dX11_addSight_66 rfl (fun v22 => ?_)
              refine q_bipush hC (v := 40) dX11_addSight_69 rfl ?_
              refine q_ic_ge hC 78 dX11_addSight_71 rfl ?_ ?_
              · refine q_iconst hC dX11_addSight_78 rfl ?_
                refine q_iconst hC dX11_addSight_79 rfl ?_
                refine q_cVI hC hnt (stk := []) (as := [.int 0, .int 3]) sX11_may (ci := 11) (by decide) rfl nX11_may rfl w_1065 w_1067 w_1068 w_830 w_1066 (Nat.le_of_ble_eq_true rfl) dX11_addSight_80 rfl (fun v23 => ?_)
                refine q_if_ne hC 88 dX11_addSight_83 rfl ?_ ?_
                · refine q_aload_n hC 0 dX11_addSight_88 rfl rfl ?_
                  refine q_cVV hC hnt (stk := []) (as := []) sX11_starts (ci := 11) (by decide) rfl nX11_starts rfl w_1147 w_1149 w_1150 w_830 w_1148 (Nat.le_of_ble_eq_true rfl) dX11_addSight_89 rfl ?_
                  refine q_aload_n hC 0 dX11_addSight_92 rfl rfl ?_
                  refine q_aload_n hC 0 dX11_addSight_93 rfl rfl ?_
                  refine q_iload_n hC 1 dX11_addSight_94 rfl rfl ?_
                  refine q_iload_n hC 2 dX11_addSight_95 rfl rfl ?_
                  refine q_iload_n hC 3 dX11_addSight_96 rfl rfl ?_
                  refine q_iload hC 4 dX11_addSight_97 rfl ?_
                  refine q_iload hC 5 dX11_addSight_99 rfl ?_
                  refine q_cVI hC hnt (stk := [.ref x0]) (as := [.int x1, .int x2, .int x3, .int x4, .int x5]) sX11_addsSight (ci := 11) (by decide) rfl nX11_addsSight rfl w_1151 w_1153 w_1154 w_830 w_1152 (Nat.le_of_ble_eq_true rfl) dX11_addSight_101 rfl (fun v24 => ?_)
                  refine q_cVI hC hnt (stk := []) (as := [.int v24]) sX11_done (ci := 11) (by decide) rfl nX11_done rfl w_1155 w_1157 w_1158 w_830 w_1156 (Nat.le_of_ble_eq_true rfl) dX11_addSight_104 rfl (fun v25 => ?_)
                  exact q_iret hC dX11_addSight_107 (Nat.le_of_ble_eq_true rfl) (Nat.le_of_ble_eq_true rfl)
                · refine q_iconst hC dX11_addSight_86 rfl ?_
                  exact q_iret hC dX11_addSight_87 (Nat.le_of_ble_eq_true rfl) (Nat.le_of_ble_eq_true rfl)
              · refine q_iconst hC dX11_addSight_74 rfl ?_
                refine q_goto hC 79 dX11_addSight_75 rfl ?_
                refine q_iconst hC dX11_addSight_79 rfl ?_
                refine q_cVI hC hnt (stk := []) (as := [.int 1, .int 3]) sX11_may (ci := 11) (by decide) rfl nX11_may rfl w_1065 w_1067 w_1068 w_830 w_1066 (Nat.le_of_ble_eq_true rfl) dX11_addSight_80 rfl (fun v26 => ?_)
                refine q_if_ne hC 88 dX11_addSight_83 rfl ?_ ?_
                · refine q_aload_n hC 0 dX11_addSight_88 rfl rfl ?_
                  refine q_cVV hC hnt (stk := []) (as := []) sX11_starts (ci := 11) (by decide) rfl nX11_starts rfl w_1147 w_1149 w_1150 w_830 w_1148 (Nat.le_of_ble_eq_true rfl) dX11_addSight_89 rfl ?_
                  refine q_aload_n hC 0 dX11_addSight_92 rfl rfl ?_
                  refine q_aload_n hC 0 dX11_addSight_93 rfl rfl ?_
                  refine q_iload_n hC 1 dX11_addSight_94 rfl rfl ?_
                  refine q_iload_n hC 2 dX11_addSight_95 rfl rfl ?_
                  refine q_iload_n hC 3 dX11_addSight_96 rfl rfl ?_
                  refine q_iload hC 4 dX11_addSight_97 rfl ?_
                  refine q_iload hC 5 dX11_addSight_99 rfl ?_
                  refine q_cVI hC hnt (stk := [.ref x0]) (as := [.int x1, .int x2, .int x3, .int x4, .int x5]) sX11_addsSight (ci := 11) (by decide) rfl nX11_addsSight rfl w_1151 w_1153 w_1154 w_830 w_1152 (Nat.le_of_ble_eq_true rfl) dX11_addSight_101 rfl (fun v27 => ?_)
                  refine q_cVI hC hnt (stk := []) (as := [.int v27]) sX11_done (ci := 11) (by decide) rfl nX11_done rfl w_1155 w_1157 w_1158 w_830 w_1156 (Nat.le_of_ble_eq_true rfl) dX11_addSight_104 rfl (fun v28 => ?_)
                  exact q_iret hC dX11_addSight_107 (Nat.le_of_ble_eq_true rfl) (Nat.le_of_ble_eq_true rfl)
                · refine q_iconst hC dX11_addSight_86 rfl ?_
                  exact q_iret hC dX11_addSight_87 (Nat.le_of_ble_eq_true rfl) (Nat.le_of_ble_eq_true rfl)
          · refine q_iload hC 5 dX11_addSight_37 rfl ?_
            refine q_i2l hC dX11_addSight_39 ?_
            refine q_ldc2 hC w_1162 dX11_addSight_40 ?_
            refine q_ldc2 hC w_1163 dX11_addSight_43 ?_
            refine q_cSI hC hnt (stk := [.ref x0]) (as := [.long (x5.toInt64), .long (-40), .long 60]) sX11_isIn nX11_isIn rfl w_847 w_849 w_830 w_848 (Nat.le_of_ble_eq_true rfl) dX11_addSight_46 rfl (fun v29 => ?_)
            refine q_if_eq hC 56 dX11_addSight_49 rfl ?_ ?_
            · refine q_iconst hC dX11_addSight_56 rfl ?_
              refine q_iconst hC dX11_addSight_57 rfl ?_
              refine q_cVI hC hnt (stk := []) (as := [.int 0, .int 2]) sX11_may (ci := 11) (by decide) rfl nX11_may rfl w_1065 w_1067 w_1068 w_830 w_1066 (Nat.le_of_ble_eq_true rfl) dX11_addSight_58 rfl (fun v30 => ?_)
              refine q_if_eq hC 86 dX11_addSight_61 rfl ?_ ?_
              · refine q_iconst hC dX11_addSight_86 rfl ?_
                exact q_iret hC dX11_addSight_87 (Nat.le_of_ble_eq_true rfl) (Nat.le_of_ble_eq_true rfl)
              · refine q_aload_n hC 0 dX11_addSight_64 rfl rfl ?_
                refine q_aload_n hC 0 dX11_addSight_65 rfl rfl ?_
                refine q_cVI hC hnt (stk := [.ref x0]) (as := []) sX11_sights (ci := 11) (by decide) rfl nX11_sights rfl w_854 w_856 w_857 w_830 w_855 (Nat.le_of_ble_eq_true rfl) dX11_addSight_66 rfl (fun v31 => ?_)
                refine q_bipush hC (v := 40) dX11_addSight_69 rfl ?_
                refine q_ic_ge hC 78 dX11_addSight_71 rfl ?_ ?_
                · refine q_iconst hC dX11_addSight_78 rfl ?_
                  refine q_iconst hC dX11_addSight_79 rfl ?_
                  refine q_cVI hC hnt (stk := []) (as := [.int 0, .int 3]) sX11_may (ci := 11) (by decide) rfl nX11_may rfl w_1065 w_1067 w_1068 w_830 w_1066 (Nat.le_of_ble_eq_true rfl) dX11_addSight_80 rfl (fun v32 => ?_)
                  refine q_if_ne hC 88 dX11_addSight_83 rfl ?_ ?_
                  · refine q_aload_n hC 0 dX11_addSight_88 rfl rfl ?_
                    refine q_cVV hC hnt (stk := []) (as := []) sX11_starts (ci := 11) (by decide) rfl nX11_starts rfl w_1147 w_1149 w_1150 w_830 w_1148 (Nat.le_of_ble_eq_true rfl) dX11_addSight_89 rfl ?_
                    refine q_aload_n hC 0 dX11_addSight_92 rfl rfl ?_
                    refine q_aload_n hC 0 dX11_addSight_93 rfl rfl ?_
                    refine q_iload_n hC 1 dX11_addSight_94 rfl rfl ?_
                    refine q_iload_n hC 2 dX11_addSight_95 rfl rfl ?_
                    refine q_iload_n hC 3 dX11_addSight_96 rfl rfl ?_
                    refine q_iload hC 4 dX11_addSight_97 rfl ?_
                    refine q_iload hC 5 dX11_addSight_99 rfl ?_
                    refine q_cVI hC hnt (stk := [.ref x0]) (as := [.int x1, .int x2, .int x3, .int x4, .int x5]) sX11_addsSight (ci := 11) (by decide) rfl nX11_addsSight rfl w_1151 w_1153 w_1154 w_830 w_1152 (Nat.le_of_ble_eq_true rfl) dX11_addSight_101 rfl (fun v33 => ?_)
                    refine q_cVI hC hnt (stk := []) (as := [.int v33]) sX11_done (ci := 11) (by decide) rfl nX11_done rfl w_1155 w_1157 w_1158 w_830 w_1156 (Nat.le_of_ble_eq_true rfl) dX11_addSight_104 rfl (fun v34 => ?_)
                    exact q_iret hC dX11_addSight_107 (Nat.le_of_ble_eq_true rfl) (Nat.le_of_ble_eq_true rfl)
                  · refine q_iconst hC dX11_addSight_86 rfl ?_
                    exact q_iret hC dX11_addSight_87 (Nat.le_of_ble_eq_true rfl) (Nat.le_of_ble_eq_true rfl)
                · refine q_iconst hC dX11_addSight_74 rfl ?_
                  refine q_goto hC 79 dX11_addSight_75 rfl ?_
                  refine q_iconst hC dX11_addSight_79 rfl ?_
                  refine q_cVI hC hnt (stk := []) (as := [.int 1, .int 3]) sX11_may (ci := 11) (by decide) rfl nX11_may rfl w_1065 w_1067 w_1068 w_830 w_1066 (Nat.le_of_ble_eq_true rfl) dX11_addSight_80 rfl (fun v35 => ?_)
                  refine q_if_ne hC 88 dX11_addSight_83 rfl ?_ ?_
                  · refine q_aload_n hC 0 dX11_addSight_88 rfl rfl ?_
                    refine q_cVV hC hnt (stk := []) (as := []) sX11_starts (ci := 11) (by decide) rfl nX11_starts rfl w_1147 w_1149 w_1150 w_830 w_1148 (Nat.le_of_ble_eq_true rfl) dX11_addSight_89 rfl ?_
                    refine q_aload_n hC 0 dX11_addSight_92 rfl rfl ?_
                    refine q_aload_n hC 0 dX11_addSight_93 rfl rfl ?_
                    refine q_iload_n hC 1 dX11_addSight_94 rfl rfl ?_
                    refine q_iload_n hC 2 dX11_addSight_95 rfl rfl ?_
                    refine q_iload_n hC 3 dX11_addSight_96 rfl rfl ?_
                    refine q_iload hC 4 dX11_addSight_97 rfl ?_
                    refine q_iload hC 5 dX11_addSight_99 rfl ?_
                    refine q_cVI hC hnt (stk := [.ref x0]) (as := [.int x1, .int x2, .int x3, .int x4, .int x5]) sX11_addsSight (ci := 11) (by decide) rfl nX11_addsSight rfl w_1151 w_1153 w_1154 w_830 w_1152 (Nat.le_of_ble_eq_true rfl) dX11_addSight_101 rfl (fun v36 => ?_)
                    refine q_cVI hC hnt (stk := []) (as := [.int v36]) sX11_done (ci := 11) (by decide) rfl nX11_done rfl w_1155 w_1157 w_1158 w_830 w_1156 (Nat.le_of_ble_eq_true rfl) dX11_addSight_104 rfl (fun v37 => ?_)
                    exact q_iret hC dX11_addSight_107 (Nat.le_of_ble_eq_true rfl) (Nat.le_of_ble_eq_true rfl)
                  · refine q_iconst hC dX11_addSight_86 rfl ?_
                    exact q_iret hC dX11_addSight_87 (Nat.le_of_ble_eq_true rfl) (Nat.le_of_ble_eq_true rfl)
            · refine q_iconst hC dX11_addSight_52 rfl ?_
              refine q_goto hC 57 dX11_addSight_53 rfl ?_
              refine q_iconst hC dX11_addSight_57 rfl ?_
              refine q_cVI hC hnt (stk := []) (as := [.int 1, .int 2]) sX11_may (ci := 11) (by decide) rfl nX11_may rfl w_1065 w_1067 w_1068 w_830 w_1066 (Nat.le_of_ble_eq_true rfl) dX11_addSight_58 rfl (fun v38 => ?_)
              refine q_if_eq hC 86 dX11_addSight_61 rfl ?_ ?_
              · refine q_iconst hC dX11_addSight_86 rfl ?_
                exact q_iret hC dX11_addSight_87 (Nat.le_of_ble_eq_true rfl) (Nat.le_of_ble_eq_true rfl)
              · refine q_aload_n hC 0 dX11_addSight_64 rfl rfl ?_
                refine q_aload_n hC 0 dX11_addSight_65 rfl rfl ?_
                refine q_cVI hC hnt (stk := [.ref x0]) (as := []) sX11_sights (ci := 11) (by decide) rfl nX11_sights rfl w_854 w_856 w_857 w_830 w_855 (Nat.le_of_ble_eq_true rfl) dX11_addSight_66 rfl (fun v39 => ?_)
                refine q_bipush hC (v := 40) dX11_addSight_69 rfl ?_
                refine q_ic_ge hC 78 dX11_addSight_71 rfl ?_ ?_
                · refine q_iconst hC dX11_addSight_78 rfl ?_
                  refine q_iconst hC dX11_addSight_79 rfl ?_
                  refine q_cVI hC hnt (stk := []) (as := [.int 0, .int 3]) sX11_may (ci := 11) (by decide) rfl nX11_may rfl w_1065 w_1067 w_1068 w_830 w_1066 (Nat.le_of_ble_eq_true rfl) dX11_addSight_80 rfl (fun v40 => ?_)
                  refine q_if_ne hC 88 dX11_addSight_83 rfl ?_ ?_
                  · refine q_aload_n hC 0 dX11_addSight_88 rfl rfl ?_
                    refine q_cVV hC hnt (stk := []) (as := []) sX11_starts (ci := 11) (by decide) rfl nX11_starts rfl w_1147 w_1149 w_1150 w_830 w_1148 (Nat.le_of_ble_eq_true rfl) dX11_addSight_89 rfl ?_
                    refine q_aload_n hC 0 dX11_addSight_92 rfl rfl ?_
                    refine q_aload_n hC 0 dX11_addSight_93 rfl rfl ?_
                    refine q_iload_n hC 1 dX11_addSight_94 rfl rfl ?_
                    refine q_iload_n hC 2 dX11_addSight_95 rfl rfl ?_
                    refine q_iload_n hC 3 dX11_addSight_96 rfl rfl ?_
                    refine q_iload hC 4 dX11_addSight_97 rfl ?_
                    refine q_iload hC 5 dX11_addSight_99 rfl ?_
                    refine q_cVI hC hnt (stk := [.ref x0]) (as := [.int x1, .int x2, .int x3, .int x4, .int x5]) sX11_addsSight (ci := 11) (by decide) rfl nX11_addsSight rfl w_1151 w_1153 w_1154 w_830 w_1152 (Nat.le_of_ble_eq_true rfl) dX11_addSight_101 rfl (fun v41 => ?_)
                    refine q_cVI hC hnt (stk := []) (as := [.int v41]) sX11_done (ci := 11) (by decide) rfl nX11_done rfl w_1155 w_1157 w_1158 w_830 w_1156 (Nat.le_of_ble_eq_true rfl) dX11_addSight_104 rfl (fun v42 => ?_)
                    exact q_iret hC dX11_addSight_107 (Nat.le_of_ble_eq_true rfl) (Nat.le_of_ble_eq_true rfl)
                  · refine q_iconst hC dX11_addSight_86 rfl ?_
                    exact q_iret hC dX11_addSight_87 (Nat.le_of_ble_eq_true rfl) (Nat.le_of_ble_eq_true rfl)
                · refine q_iconst hC dX11_addSight_74 rfl ?_
                  refine q_goto hC 79 dX11_addSight_75 rfl ?_
                  refine q_iconst hC dX11_addSight_79 rfl ?_
                  refine q_cVI hC hnt (stk := []) (as := [.int 1, .int 3]) sX11_may (ci := 11) (by decide) rfl nX11_may rfl w_1065 w_1067 w_1068 w_830 w_1066 (Nat.le_of_ble_eq_true rfl) dX11_addSight_80 rfl (fun v43 => ?_)
                  refine q_if_ne hC 88 dX11_addSight_83 rfl ?_ ?_
                  · refine q_aload_n hC 0 dX11_addSight_88 rfl rfl ?_
                    refine q_cVV hC hnt (stk := []) (as := []) sX11_starts (ci := 11) (by decide) rfl nX11_starts rfl w_1147 w_1149 w_1150 w_830 w_1148 (Nat.le_of_ble_eq_true rfl) dX11_addSight_89 rfl ?_
                    refine q_aload_n hC 0 dX11_addSight_92 rfl rfl ?_
                    refine q_aload_n hC 0 dX11_addSight_93 rfl rfl ?_
                    refine q_iload_n hC 1 dX11_addSight_94 rfl rfl ?_
                    refine q_iload_n hC 2 dX11_addSight_95 rfl rfl ?_
                    refine q_iload_n hC 3 dX11_addSight_96 rfl rfl ?_
                    refine q_iload hC 4 dX11_addSight_97 rfl ?_
                    refine q_iload hC 5 dX11_addSight_99 rfl ?_
                    refine q_cVI hC hnt (stk := [.ref x0]) (as := [.int x1, .int x2, .int x3, .int x4, .int x5]) sX11_addsSight (ci := 11) (by decide) rfl nX11_addsSight rfl w_1151 w_1153 w_1154 w_830 w_1152 (Nat.le_of_ble_eq_true rfl) dX11_addSight_101 rfl (fun v44 => ?_)
                    refine q_cVI hC hnt (stk := []) (as := [.int v44]) sX11_done (ci := 11) (by decide) rfl nX11_done rfl w_1155 w_1157 w_1158 w_830 w_1156 (Nat.le_of_ble_eq_true rfl) dX11_addSight_104 rfl (fun v45 => ?_)
                    exact q_iret hC dX11_addSight_107 (Nat.le_of_ble_eq_true rfl) (Nat.le_of_ble_eq_true rfl)
                  · refine q_iconst hC dX11_addSight_86 rfl ?_
                    exact q_iret hC dX11_addSight_87 (Nat.le_of_ble_eq_true rfl) (Nat.le_of_ble_eq_true rfl)
  · exact c_no
theorem sX11_addSight : Snd yX11_addSight (.code yX11_addSight cX11_addSight 6 (some .int)) rmX11_addSight SX11_addSight := by
  refine Snd.of lX11_addSight (by decide +kernel) (fun _ => rfl) ?_
  intro Γ hC hnt hnm J hJ L a
  match L with
  | 0 => exact pX11_addSight_0 hC hnt J hJ a
  | L + 1 => exact c_no
/-! SpiritWallModel.strike(IZ)Z -/
theorem dX11_strike_0 : decode cX11_strike 0 = .ok (.aload_n 0, 1) := by decide +kernel
theorem dX11_strike_1 : decode cX11_strike 1 = .ok (.aload_n 0, 1) := by decide +kernel
theorem dX11_strike_2 : decode cX11_strike 2 = .ok (.iload_n 1, 1) := by decide +kernel
theorem dX11_strike_3 : decode cX11_strike 3 = .ok (.invokevirtual 296, 3) := by decide +kernel
theorem dX11_strike_6 : decode cX11_strike 6 = .ok (.invokevirtual 77, 3) := by decide +kernel
theorem dX11_strike_9 : decode cX11_strike 9 = .ok (.ifCond .ne 5, 3) := by decide +kernel
theorem dX11_strike_12 : decode cX11_strike 12 = .ok (.iconst 0, 1) := by decide +kernel
theorem dX11_strike_13 : decode cX11_strike 13 = .ok (.ireturn, 1) := by decide +kernel
theorem dX11_strike_14 : decode cX11_strike 14 = .ok (.aload_n 0, 1) := by decide +kernel
theorem dX11_strike_15 : decode cX11_strike 15 = .ok (.invokevirtual 362, 3) := by decide +kernel
theorem dX11_strike_18 : decode cX11_strike 18 = .ok (.aload_n 0, 1) := by decide +kernel
theorem dX11_strike_19 : decode cX11_strike 19 = .ok (.iload_n 1, 1) := by decide +kernel
theorem dX11_strike_20 : decode cX11_strike 20 = .ok (.iconst 5, 1) := by decide +kernel
theorem dX11_strike_21 : decode cX11_strike 21 = .ok (.invokevirtual 100, 3) := by decide +kernel
theorem dX11_strike_24 : decode cX11_strike 24 = .ok (.istore_n 3, 1) := by decide +kernel
theorem dX11_strike_25 : decode cX11_strike 25 = .ok (.aload_n 0, 1) := by decide +kernel
theorem dX11_strike_26 : decode cX11_strike 26 = .ok (.iload_n 1, 1) := by decide +kernel
theorem dX11_strike_27 : decode cX11_strike 27 = .ok (.iconst 5, 1) := by decide +kernel
theorem dX11_strike_28 : decode cX11_strike 28 = .ok (.iload_n 2, 1) := by decide +kernel
theorem dX11_strike_29 : decode cX11_strike 29 = .ok (.ifCond .eq 7, 3) := by decide +kernel
theorem dX11_strike_32 : decode cX11_strike 32 = .ok (.iconst 1, 1) := by decide +kernel
theorem dX11_strike_33 : decode cX11_strike 33 = .ok (.goto 4, 3) := by decide +kernel
theorem dX11_strike_36 : decode cX11_strike 36 = .ok (.iconst 0, 1) := by decide +kernel
theorem dX11_strike_37 : decode cX11_strike 37 = .ok (.invokevirtual 331, 3) := by decide +kernel
theorem dX11_strike_40 : decode cX11_strike 40 = .ok (.aload_n 0, 1) := by decide +kernel
theorem dX11_strike_41 : decode cX11_strike 41 = .ok (.iload_n 3, 1) := by decide +kernel
theorem dX11_strike_42 : decode cX11_strike 42 = .ok (.invokevirtual 369, 3) := by decide +kernel
theorem dX11_strike_45 : decode cX11_strike 45 = .ok (.iconst 1, 1) := by decide +kernel
theorem dX11_strike_46 : decode cX11_strike 46 = .ok (.if_icmp .ne 7, 3) := by decide +kernel
theorem dX11_strike_49 : decode cX11_strike 49 = .ok (.iconst 1, 1) := by decide +kernel
theorem dX11_strike_50 : decode cX11_strike 50 = .ok (.goto 4, 3) := by decide +kernel
theorem dX11_strike_53 : decode cX11_strike 53 = .ok (.iconst 0, 1) := by decide +kernel
theorem dX11_strike_54 : decode cX11_strike 54 = .ok (.ireturn, 1) := by decide +kernel
def rmX11_strike : Room := rmk 8 0 0 196
theorem nX11_strike : nameOk yX11_strike 2 = true := by decide +kernel
def bX11_strike_0 (J : JT) : List Value → Sem
  | [.ref x0, .int x1, .int x2] =>
    ob 11 x0 (cI SX11_isSight [.ref x0, .int x1] fun v1 =>
    ob 11 x0 (cI SX11_is [.ref x0, .int v1] fun v2 =>
    br (v2 = 0)
    (rZ 0)
    (ob 11 x0 (cV SX11_starts [.ref x0] <|
    ob 11 x0 (cI SX11_ofSight [.ref x0, .int x1, .int 5] fun v3 =>
    br (x2 = 0)
    (ob 11 x0 (cV SX11_laysSight [.ref x0, .int x1, .int 5, .int 0] <|
    ob 11 x0 (cI SX11_done [.ref x0, .int v3] fun v4 =>
    br (v4 = (1 : Int32))
    (rZ 1)
    (rZ 0))))
    (ob 11 x0 (cV SX11_laysSight [.ref x0, .int x1, .int 5, .int 1] <|
    ob 11 x0 (cI SX11_done [.ref x0, .int v3] fun v5 =>
    br (v5 = (1 : Int32))
    (rZ 1)
    (rZ 0)))))))))
  | _ => no
def bX11_strike (J : JT) : JT := fun L a => match L with
  | 0 => bX11_strike_0 J a
  | _ => no
def SX11_strike : ST := mk 4 bX11_strike
def lX11_strike (L : Nat) (a : List Value) : Nat × Nat × Nat × List (Nat × Value) × List Value := match L with
  | 0 => (0, 0, 0, lv_args 0 a, [])
  | _ => (0, 0, 0, [], [])
theorem pX11_strike_0 {Γ : CT} (hC : Ctx Γ "SpiritWallModel" cX11_strike 4 (some .boolean) rmX11_strike) (hnt : NT Γ) (J : JT) (hJ : ∀ L a, Cor Γ 4 (lX11_strike L a).1 (lX11_strike L a).2.1 (lX11_strike L a).2.2.1 (lX11_strike L a).2.2.2.1 (lX11_strike L a).2.2.2.2 (J L a)) (a : List Value) : Cor Γ 4 0 0 0 (lv_args 0 a) [] (bX11_strike_0 J a) := by
  unfold bX11_strike_0
  split
  · rename_i x0 x1 x2
    refine c_sub [0, 1, 2] rfl (loc' := [(0, .ref x0), (1, .int x1), (2, .int x2)]) ?_
    refine q_aload_n hC 0 dX11_strike_0 rfl rfl ?_
    refine q_aload_n hC 0 dX11_strike_1 rfl rfl ?_
    refine q_iload_n hC 1 dX11_strike_2 rfl rfl ?_
    refine q_cVI hC hnt (stk := [.ref x0]) (as := [.int x1]) sX11_isSight (ci := 11) (by decide) rfl nX11_isSight rfl w_1081 w_1083 w_1084 w_830 w_1082 (Nat.le_of_ble_eq_true rfl) dX11_strike_3 rfl (fun v1 => ?_)
    refine q_cVI hC hnt (stk := []) (as := [.int v1]) sX11_is (ci := 11) (by decide) rfl nX11_is rfl w_838 w_840 w_841 w_830 w_839 (Nat.le_of_ble_eq_true rfl) dX11_strike_6 rfl (fun v2 => ?_)
    refine q_if_ne hC 14 dX11_strike_9 rfl ?_ ?_
    · refine q_aload_n hC 0 dX11_strike_14 rfl rfl ?_
      refine q_cVV hC hnt (stk := []) (as := []) sX11_starts (ci := 11) (by decide) rfl nX11_starts rfl w_1147 w_1149 w_1150 w_830 w_1148 (Nat.le_of_ble_eq_true rfl) dX11_strike_15 rfl ?_
      refine q_aload_n hC 0 dX11_strike_18 rfl rfl ?_
      refine q_iload_n hC 1 dX11_strike_19 rfl rfl ?_
      refine q_iconst hC dX11_strike_20 rfl ?_
      refine q_cVI hC hnt (stk := []) (as := [.int x1, .int 5]) sX11_ofSight (ci := 11) (by decide) rfl nX11_ofSight rfl w_858 w_860 w_861 w_830 w_859 (Nat.le_of_ble_eq_true rfl) dX11_strike_21 rfl (fun v3 => ?_)
      refine q_istore_nA hC (loc' := [(3, .int v3), (0, .ref x0), (1, .int x1), (2, .int x2)]) dX11_strike_24 rfl (Nat.le_of_ble_eq_true rfl) rfl ?_
      refine q_aload_n hC 1 dX11_strike_25 rfl rfl ?_
      refine q_iload_n hC 2 dX11_strike_26 rfl rfl ?_
      refine q_iconst hC dX11_strike_27 rfl ?_
      refine q_iload_n hC 3 dX11_strike_28 rfl rfl ?_
      refine q_if_eq hC 36 dX11_strike_29 rfl ?_ ?_
      · refine q_iconst hC dX11_strike_36 rfl ?_
        refine q_cVV hC hnt (stk := []) (as := [.int x1, .int 5, .int 0]) sX11_laysSight (ci := 11) (by decide) rfl nX11_laysSight rfl w_1120 w_1122 w_1123 w_830 w_1121 (Nat.le_of_ble_eq_true rfl) dX11_strike_37 rfl ?_
        refine q_aload_n hC 1 dX11_strike_40 rfl rfl ?_
        refine q_iload_n hC 0 dX11_strike_41 rfl rfl ?_
        refine q_cVI hC hnt (stk := []) (as := [.int v3]) sX11_done (ci := 11) (by decide) rfl nX11_done rfl w_1155 w_1157 w_1158 w_830 w_1156 (Nat.le_of_ble_eq_true rfl) dX11_strike_42 rfl (fun v4 => ?_)
        refine q_iconst hC dX11_strike_45 rfl ?_
        refine q_ic_ne hC 53 dX11_strike_46 rfl ?_ ?_
        · refine q_iconst hC dX11_strike_53 rfl ?_
          exact q_zret hC dX11_strike_54 (Nat.le_of_ble_eq_true rfl) (Nat.le_of_ble_eq_true rfl)
        · refine q_iconst hC dX11_strike_49 rfl ?_
          refine q_goto hC 54 dX11_strike_50 rfl ?_
          exact q_zret hC dX11_strike_54 (Nat.le_of_ble_eq_true rfl) (Nat.le_of_ble_eq_true rfl)
      · refine q_iconst hC dX11_strike_32 rfl ?_
        refine q_goto hC 37 dX11_strike_33 rfl ?_
        refine q_cVV hC hnt (stk := []) (as := [.int x1, .int 5, .int 1]) sX11_laysSight (ci := 11) (by decide) rfl nX11_laysSight rfl w_1120 w_1122 w_1123 w_830 w_1121 (Nat.le_of_ble_eq_true rfl) dX11_strike_37 rfl ?_
        refine q_aload_n hC 1 dX11_strike_40 rfl rfl ?_
        refine q_iload_n hC 0 dX11_strike_41 rfl rfl ?_
        refine q_cVI hC hnt (stk := []) (as := [.int v3]) sX11_done (ci := 11) (by decide) rfl nX11_done rfl w_1155 w_1157 w_1158 w_830 w_1156 (Nat.le_of_ble_eq_true rfl) dX11_strike_42 rfl (fun v5 => ?_)
        refine q_iconst hC dX11_strike_45 rfl ?_
        refine q_ic_ne hC 53 dX11_strike_46 rfl ?_ ?_
        · refine q_iconst hC dX11_strike_53 rfl ?_
          exact q_zret hC dX11_strike_54 (Nat.le_of_ble_eq_true rfl) (Nat.le_of_ble_eq_true rfl)
        · refine q_iconst hC dX11_strike_49 rfl ?_
          refine q_goto hC 54 dX11_strike_50 rfl ?_
          exact q_zret hC dX11_strike_54 (Nat.le_of_ble_eq_true rfl) (Nat.le_of_ble_eq_true rfl)
    · refine q_iconst hC dX11_strike_12 rfl ?_
      exact q_zret hC dX11_strike_13 (Nat.le_of_ble_eq_true rfl) (Nat.le_of_ble_eq_true rfl)
  · exact c_no
theorem sX11_strike : Snd yX11_strike (.code yX11_strike cX11_strike 4 (some .boolean)) rmX11_strike SX11_strike := by
  refine Snd.of lX11_strike (by decide +kernel) (fun _ => rfl) ?_
  intro Γ hC hnt hnm J hJ L a
  match L with
  | 0 => exact pX11_strike_0 hC hnt J hJ a
  | L + 1 => exact c_no
/-! SpiritWallModel.swap(II)I -/
theorem dX11_swap_0 : decode cX11_swap 0 = .ok (.aload_n 0, 1) := by decide +kernel
theorem dX11_swap_1 : decode cX11_swap 1 = .ok (.aload_n 0, 1) := by decide +kernel
theorem dX11_swap_2 : decode cX11_swap 2 = .ok (.iload_n 1, 1) := by decide +kernel
theorem dX11_swap_3 : decode cX11_swap 3 = .ok (.invokevirtual 296, 3) := by decide +kernel
theorem dX11_swap_6 : decode cX11_swap 6 = .ok (.invokevirtual 77, 3) := by decide +kernel
theorem dX11_swap_9 : decode cX11_swap 9 = .ok (.ifCond .eq 15, 3) := by decide +kernel
theorem dX11_swap_12 : decode cX11_swap 12 = .ok (.aload_n 0, 1) := by decide +kernel
theorem dX11_swap_13 : decode cX11_swap 13 = .ok (.iload_n 2, 1) := by decide +kernel
theorem dX11_swap_14 : decode cX11_swap 14 = .ok (.invokestatic 355, 3) := by decide +kernel
theorem dX11_swap_17 : decode cX11_swap 17 = .ok (.iconst 2, 1) := by decide +kernel
theorem dX11_swap_18 : decode cX11_swap 18 = .ok (.invokevirtual 283, 3) := by decide +kernel
theorem dX11_swap_21 : decode cX11_swap 21 = .ok (.ifCond .ne 5, 3) := by decide +kernel
theorem dX11_swap_24 : decode cX11_swap 24 = .ok (.iconst 0, 1) := by decide +kernel
theorem dX11_swap_25 : decode cX11_swap 25 = .ok (.ireturn, 1) := by decide +kernel
theorem dX11_swap_26 : decode cX11_swap 26 = .ok (.aload_n 0, 1) := by decide +kernel
theorem dX11_swap_27 : decode cX11_swap 27 = .ok (.invokevirtual 362, 3) := by decide +kernel
theorem dX11_swap_30 : decode cX11_swap 30 = .ok (.aload_n 0, 1) := by decide +kernel
theorem dX11_swap_31 : decode cX11_swap 31 = .ok (.iload_n 1, 1) := by decide +kernel
theorem dX11_swap_32 : decode cX11_swap 32 = .ok (.iconst 3, 1) := by decide +kernel
theorem dX11_swap_33 : decode cX11_swap 33 = .ok (.iload_n 2, 1) := by decide +kernel
theorem dX11_swap_34 : decode cX11_swap 34 = .ok (.invokevirtual 331, 3) := by decide +kernel
theorem dX11_swap_37 : decode cX11_swap 37 = .ok (.aload_n 0, 1) := by decide +kernel
theorem dX11_swap_38 : decode cX11_swap 38 = .ok (.iload_n 1, 1) := by decide +kernel
theorem dX11_swap_39 : decode cX11_swap 39 = .ok (.iconst 2, 1) := by decide +kernel
theorem dX11_swap_40 : decode cX11_swap 40 = .ok (.iconst 1, 1) := by decide +kernel
theorem dX11_swap_41 : decode cX11_swap 41 = .ok (.aload_n 0, 1) := by decide +kernel
theorem dX11_swap_42 : decode cX11_swap 42 = .ok (.iload_n 1, 1) := by decide +kernel
theorem dX11_swap_43 : decode cX11_swap 43 = .ok (.iconst 2, 1) := by decide +kernel
theorem dX11_swap_44 : decode cX11_swap 44 = .ok (.invokevirtual 100, 3) := by decide +kernel
theorem dX11_swap_47 : decode cX11_swap 47 = .ok (.isub, 1) := by decide +kernel
theorem dX11_swap_48 : decode cX11_swap 48 = .ok (.invokevirtual 331, 3) := by decide +kernel
theorem dX11_swap_51 : decode cX11_swap 51 = .ok (.aload_n 0, 1) := by decide +kernel
theorem dX11_swap_52 : decode cX11_swap 52 = .ok (.aload_n 0, 1) := by decide +kernel
theorem dX11_swap_53 : decode cX11_swap 53 = .ok (.iload_n 1, 1) := by decide +kernel
theorem dX11_swap_54 : decode cX11_swap 54 = .ok (.iconst 2, 1) := by decide +kernel
theorem dX11_swap_55 : decode cX11_swap 55 = .ok (.invokevirtual 100, 3) := by decide +kernel
theorem dX11_swap_58 : decode cX11_swap 58 = .ok (.invokevirtual 369, 3) := by decide +kernel
theorem dX11_swap_61 : decode cX11_swap 61 = .ok (.ireturn, 1) := by decide +kernel
def rmX11_swap : Room := rmk 8 0 0 196
theorem nX11_swap : nameOk yX11_swap 2 = true := by decide +kernel
def bX11_swap_0 (J : JT) : List Value → Sem
  | [.ref x0, .int x1, .int x2] =>
    ob 11 x0 (cI SX11_isSight [.ref x0, .int x1] fun v1 =>
    ob 11 x0 (cI SX11_is [.ref x0, .int v1] fun v2 =>
    br (v2 = 0)
    (rI 0)
    (cI SX11_isReading [.int x2] fun v3 =>
    ob 11 x0 (cI SX11_may [.ref x0, .int v3, .int 2] fun v4 =>
    br (v4 = 0)
    (rI 0)
    (ob 11 x0 (cV SX11_starts [.ref x0] <|
    ob 11 x0 (cV SX11_laysSight [.ref x0, .int x1, .int 3, .int x2] <|
    ob 11 x0 (cI SX11_ofSight [.ref x0, .int x1, .int 2] fun v5 =>
    ob 11 x0 (cV SX11_laysSight [.ref x0, .int x1, .int 2, .int (1 - v5)] <|
    ob 11 x0 (cI SX11_ofSight [.ref x0, .int x1, .int 2] fun v6 =>
    ob 11 x0 (cI SX11_done [.ref x0, .int v6] fun v7 =>
    rI v7)))))))))))
  | _ => no
def bX11_swap (J : JT) : JT := fun L a => match L with
  | 0 => bX11_swap_0 J a
  | _ => no
def SX11_swap : ST := mk 3 bX11_swap
def lX11_swap (L : Nat) (a : List Value) : Nat × Nat × Nat × List (Nat × Value) × List Value := match L with
  | 0 => (0, 0, 0, lv_args 0 a, [])
  | _ => (0, 0, 0, [], [])
theorem pX11_swap_0 {Γ : CT} (hC : Ctx Γ "SpiritWallModel" cX11_swap 3 (some .int) rmX11_swap) (hnt : NT Γ) (J : JT) (hJ : ∀ L a, Cor Γ 3 (lX11_swap L a).1 (lX11_swap L a).2.1 (lX11_swap L a).2.2.1 (lX11_swap L a).2.2.2.1 (lX11_swap L a).2.2.2.2 (J L a)) (a : List Value) : Cor Γ 3 0 0 0 (lv_args 0 a) [] (bX11_swap_0 J a) := by
  unfold bX11_swap_0
  split
  · rename_i x0 x1 x2
    refine c_sub [0, 1, 2] rfl (loc' := [(0, .ref x0), (1, .int x1), (2, .int x2)]) ?_
    refine q_aload_n hC 0 dX11_swap_0 rfl rfl ?_
    refine q_aload_n hC 0 dX11_swap_1 rfl rfl ?_
    refine q_iload_n hC 1 dX11_swap_2 rfl rfl ?_
    refine q_cVI hC hnt (stk := [.ref x0]) (as := [.int x1]) sX11_isSight (ci := 11) (by decide) rfl nX11_isSight rfl w_1081 w_1083 w_1084 w_830 w_1082 (Nat.le_of_ble_eq_true rfl) dX11_swap_3 rfl (fun v1 => ?_)
    refine q_cVI hC hnt (stk := []) (as := [.int v1]) sX11_is (ci := 11) (by decide) rfl nX11_is rfl w_838 w_840 w_841 w_830 w_839 (Nat.le_of_ble_eq_true rfl) dX11_swap_6 rfl (fun v2 => ?_)
    refine q_if_eq hC 24 dX11_swap_9 rfl ?_ ?_
    · refine q_iconst hC dX11_swap_24 rfl ?_
      exact q_iret hC dX11_swap_25 (Nat.le_of_ble_eq_true rfl) (Nat.le_of_ble_eq_true rfl)
    · refine q_aload_n hC 0 dX11_swap_12 rfl rfl ?_
      refine q_iload_n hC 2 dX11_swap_13 rfl rfl ?_
      refine q_cSI hC hnt (stk := [.ref x0]) (as := [.int x2]) sX11_isReading nX11_isReading rfl w_1159 w_1161 w_830 w_1160 (Nat.le_of_ble_eq_true rfl) dX11_swap_14 rfl (fun v3 => ?_)
      refine q_iconst hC dX11_swap_17 rfl ?_
      refine q_cVI hC hnt (stk := []) (as := [.int v3, .int 2]) sX11_may (ci := 11) (by decide) rfl nX11_may rfl w_1065 w_1067 w_1068 w_830 w_1066 (Nat.le_of_ble_eq_true rfl) dX11_swap_18 rfl (fun v4 => ?_)
      refine q_if_ne hC 26 dX11_swap_21 rfl ?_ ?_
      · refine q_aload_n hC 0 dX11_swap_26 rfl rfl ?_
        refine q_cVV hC hnt (stk := []) (as := []) sX11_starts (ci := 11) (by decide) rfl nX11_starts rfl w_1147 w_1149 w_1150 w_830 w_1148 (Nat.le_of_ble_eq_true rfl) dX11_swap_27 rfl ?_
        refine q_aload_n hC 0 dX11_swap_30 rfl rfl ?_
        refine q_iload_n hC 1 dX11_swap_31 rfl rfl ?_
        refine q_iconst hC dX11_swap_32 rfl ?_
        refine q_iload_n hC 2 dX11_swap_33 rfl rfl ?_
        refine q_cVV hC hnt (stk := []) (as := [.int x1, .int 3, .int x2]) sX11_laysSight (ci := 11) (by decide) rfl nX11_laysSight rfl w_1120 w_1122 w_1123 w_830 w_1121 (Nat.le_of_ble_eq_true rfl) dX11_swap_34 rfl ?_
        refine q_aload_n hC 0 dX11_swap_37 rfl rfl ?_
        refine q_iload_n hC 1 dX11_swap_38 rfl rfl ?_
        refine q_iconst hC dX11_swap_39 rfl ?_
        refine q_iconst hC dX11_swap_40 rfl ?_
        refine q_aload_n hC 0 dX11_swap_41 rfl rfl ?_
        refine q_iload_n hC 1 dX11_swap_42 rfl rfl ?_
        refine q_iconst hC dX11_swap_43 rfl ?_
        refine q_cVI hC hnt (stk := [.int 1, .int 2, .int x1, .ref x0]) (as := [.int x1, .int 2]) sX11_ofSight (ci := 11) (by decide) rfl nX11_ofSight rfl w_858 w_860 w_861 w_830 w_859 (Nat.le_of_ble_eq_true rfl) dX11_swap_44 rfl (fun v5 => ?_)
        refine q_isub hC dX11_swap_47 ?_
        refine q_cVV hC hnt (stk := []) (as := [.int x1, .int 2, .int (1 - v5)]) sX11_laysSight (ci := 11) (by decide) rfl nX11_laysSight rfl w_1120 w_1122 w_1123 w_830 w_1121 (Nat.le_of_ble_eq_true rfl) dX11_swap_48 rfl ?_
        refine q_aload_n hC 0 dX11_swap_51 rfl rfl ?_
        refine q_aload_n hC 0 dX11_swap_52 rfl rfl ?_
        refine q_iload_n hC 1 dX11_swap_53 rfl rfl ?_
        refine q_iconst hC dX11_swap_54 rfl ?_
        refine q_cVI hC hnt (stk := [.ref x0]) (as := [.int x1, .int 2]) sX11_ofSight (ci := 11) (by decide) rfl nX11_ofSight rfl w_858 w_860 w_861 w_830 w_859 (Nat.le_of_ble_eq_true rfl) dX11_swap_55 rfl (fun v6 => ?_)
        refine q_cVI hC hnt (stk := []) (as := [.int v6]) sX11_done (ci := 11) (by decide) rfl nX11_done rfl w_1155 w_1157 w_1158 w_830 w_1156 (Nat.le_of_ble_eq_true rfl) dX11_swap_58 rfl (fun v7 => ?_)
        exact q_iret hC dX11_swap_61 (Nat.le_of_ble_eq_true rfl) (Nat.le_of_ble_eq_true rfl)
      · refine q_iconst hC dX11_swap_24 rfl ?_
        exact q_iret hC dX11_swap_25 (Nat.le_of_ble_eq_true rfl) (Nat.le_of_ble_eq_true rfl)
  · exact c_no
theorem sX11_swap : Snd yX11_swap (.code yX11_swap cX11_swap 3 (some .int)) rmX11_swap SX11_swap := by
  refine Snd.of lX11_swap (by decide +kernel) (fun _ => rfl) ?_
  intro Γ hC hnt hnm J hJ L a
  match L with
  | 0 => exact pX11_swap_0 hC hnt J hJ a
  | L + 1 => exact c_no
/-! SpiritWallModel.fix(II)Z -/
theorem dX11_fix_0 : decode cX11_fix 0 = .ok (.aload_n 0, 1) := by decide +kernel
theorem dX11_fix_1 : decode cX11_fix 1 = .ok (.aload_n 0, 1) := by decide +kernel
theorem dX11_fix_2 : decode cX11_fix 2 = .ok (.iload_n 1, 1) := by decide +kernel
theorem dX11_fix_3 : decode cX11_fix 3 = .ok (.invokevirtual 93, 3) := by decide +kernel
theorem dX11_fix_6 : decode cX11_fix 6 = .ok (.invokevirtual 77, 3) := by decide +kernel
theorem dX11_fix_9 : decode cX11_fix 9 = .ok (.ifCond .eq 22, 3) := by decide +kernel
theorem dX11_fix_12 : decode cX11_fix 12 = .ok (.aload_n 0, 1) := by decide +kernel
theorem dX11_fix_13 : decode cX11_fix 13 = .ok (.iload_n 2, 1) := by decide +kernel
theorem dX11_fix_14 : decode cX11_fix 14 = .ok (.i2l, 1) := by decide +kernel
theorem dX11_fix_15 : decode cX11_fix 15 = .ok (.ldc2_w 372, 3) := by decide +kernel
theorem dX11_fix_18 : decode cX11_fix 18 = .ok (.ldc2_w 374, 3) := by decide +kernel
theorem dX11_fix_21 : decode cX11_fix 21 = .ok (.invokestatic 89, 3) := by decide +kernel
theorem dX11_fix_24 : decode cX11_fix 24 = .ok (.iconst 2, 1) := by decide +kernel
theorem dX11_fix_25 : decode cX11_fix 25 = .ok (.invokevirtual 283, 3) := by decide +kernel
theorem dX11_fix_28 : decode cX11_fix 28 = .ok (.ifCond .ne 5, 3) := by decide +kernel
theorem dX11_fix_31 : decode cX11_fix 31 = .ok (.iconst 0, 1) := by decide +kernel
theorem dX11_fix_32 : decode cX11_fix 32 = .ok (.ireturn, 1) := by decide +kernel
theorem dX11_fix_33 : decode cX11_fix 33 = .ok (.aload_n 0, 1) := by decide +kernel
theorem dX11_fix_34 : decode cX11_fix 34 = .ok (.invokevirtual 362, 3) := by decide +kernel
theorem dX11_fix_37 : decode cX11_fix 37 = .ok (.aload_n 0, 1) := by decide +kernel
theorem dX11_fix_38 : decode cX11_fix 38 = .ok (.iload_n 1, 1) := by decide +kernel
theorem dX11_fix_39 : decode cX11_fix 39 = .ok (.iconst 2, 1) := by decide +kernel
theorem dX11_fix_40 : decode cX11_fix 40 = .ok (.invokevirtual 104, 3) := by decide +kernel
theorem dX11_fix_43 : decode cX11_fix 43 = .ok (.istore_n 3, 1) := by decide +kernel
theorem dX11_fix_44 : decode cX11_fix 44 = .ok (.aload_n 0, 1) := by decide +kernel
theorem dX11_fix_45 : decode cX11_fix 45 = .ok (.iload_n 1, 1) := by decide +kernel
theorem dX11_fix_46 : decode cX11_fix 46 = .ok (.iconst 2, 1) := by decide +kernel
theorem dX11_fix_47 : decode cX11_fix 47 = .ok (.iconst 1, 1) := by decide +kernel
theorem dX11_fix_48 : decode cX11_fix 48 = .ok (.invokevirtual 247, 3) := by decide +kernel
theorem dX11_fix_51 : decode cX11_fix 51 = .ok (.aload_n 0, 1) := by decide +kernel
theorem dX11_fix_52 : decode cX11_fix 52 = .ok (.iload_n 1, 1) := by decide +kernel
theorem dX11_fix_53 : decode cX11_fix 53 = .ok (.iconst 3, 1) := by decide +kernel
theorem dX11_fix_54 : decode cX11_fix 54 = .ok (.iconst 1, 1) := by decide +kernel
theorem dX11_fix_55 : decode cX11_fix 55 = .ok (.invokevirtual 247, 3) := by decide +kernel
theorem dX11_fix_58 : decode cX11_fix 58 = .ok (.aload_n 0, 1) := by decide +kernel
theorem dX11_fix_59 : decode cX11_fix 59 = .ok (.iload_n 1, 1) := by decide +kernel
theorem dX11_fix_60 : decode cX11_fix 60 = .ok (.iconst 4, 1) := by decide +kernel
theorem dX11_fix_61 : decode cX11_fix 61 = .ok (.iload_n 2, 1) := by decide +kernel
theorem dX11_fix_62 : decode cX11_fix 62 = .ok (.invokevirtual 247, 3) := by decide +kernel
theorem dX11_fix_65 : decode cX11_fix 65 = .ok (.aload_n 0, 1) := by decide +kernel
theorem dX11_fix_66 : decode cX11_fix 66 = .ok (.iload_n 3, 1) := by decide +kernel
theorem dX11_fix_67 : decode cX11_fix 67 = .ok (.invokevirtual 369, 3) := by decide +kernel
theorem dX11_fix_70 : decode cX11_fix 70 = .ok (.iconst 1, 1) := by decide +kernel
theorem dX11_fix_71 : decode cX11_fix 71 = .ok (.if_icmp .ne 7, 3) := by decide +kernel
theorem dX11_fix_74 : decode cX11_fix 74 = .ok (.iconst 1, 1) := by decide +kernel
theorem dX11_fix_75 : decode cX11_fix 75 = .ok (.goto 4, 3) := by decide +kernel
theorem dX11_fix_78 : decode cX11_fix 78 = .ok (.iconst 0, 1) := by decide +kernel
theorem dX11_fix_79 : decode cX11_fix 79 = .ok (.ireturn, 1) := by decide +kernel
def rmX11_fix : Room := rmk 8 0 0 196
theorem nX11_fix : nameOk yX11_fix 2 = true := by decide +kernel
def bX11_fix_0 (J : JT) : List Value → Sem
  | [.ref x0, .int x1, .int x2] =>
    ob 11 x0 (cI SX11_isMark [.ref x0, .int x1] fun v1 =>
    ob 11 x0 (cI SX11_is [.ref x0, .int v1] fun v2 =>
    br (v2 = 0)
    (rZ 0)
    (cI SX11_isIn [.long (x2.toInt64), .long (-99999), .long 99999] fun v3 =>
    ob 11 x0 (cI SX11_may [.ref x0, .int v3, .int 2] fun v4 =>
    br (v4 = 0)
    (rZ 0)
    (ob 11 x0 (cV SX11_starts [.ref x0] <|
    ob 11 x0 (cI SX11_of [.ref x0, .int x1, .int 2] fun v5 =>
    ob 11 x0 (cV SX11_lays [.ref x0, .int x1, .int 2, .int 1] <|
    ob 11 x0 (cV SX11_lays [.ref x0, .int x1, .int 3, .int 1] <|
    ob 11 x0 (cV SX11_lays [.ref x0, .int x1, .int 4, .int x2] <|
    ob 11 x0 (cI SX11_done [.ref x0, .int v5] fun v6 =>
    br (v6 = (1 : Int32))
    (rZ 1)
    (rZ 0))))))))))))
  | _ => no
def bX11_fix (J : JT) : JT := fun L a => match L with
  | 0 => bX11_fix_0 J a
  | _ => no
def SX11_fix : ST := mk 4 bX11_fix
def lX11_fix (L : Nat) (a : List Value) : Nat × Nat × Nat × List (Nat × Value) × List Value := match L with
  | 0 => (0, 0, 0, lv_args 0 a, [])
  | _ => (0, 0, 0, [], [])
theorem pX11_fix_0 {Γ : CT} (hC : Ctx Γ "SpiritWallModel" cX11_fix 4 (some .boolean) rmX11_fix) (hnt : NT Γ) (J : JT) (hJ : ∀ L a, Cor Γ 4 (lX11_fix L a).1 (lX11_fix L a).2.1 (lX11_fix L a).2.2.1 (lX11_fix L a).2.2.2.1 (lX11_fix L a).2.2.2.2 (J L a)) (a : List Value) : Cor Γ 4 0 0 0 (lv_args 0 a) [] (bX11_fix_0 J a) := by
  unfold bX11_fix_0
  split
  · rename_i x0 x1 x2
    refine c_sub [0, 1, 2] rfl (loc' := [(0, .ref x0), (1, .int x1), (2, .int x2)]) ?_
    refine q_aload_n hC 0 dX11_fix_0 rfl rfl ?_
    refine q_aload_n hC 0 dX11_fix_1 rfl rfl ?_
    refine q_iload_n hC 1 dX11_fix_2 rfl rfl ?_
    refine q_cVI hC hnt (stk := [.ref x0]) (as := [.int x1]) sX11_isMark (ci := 11) (by decide) rfl nX11_isMark rfl w_850 w_852 w_853 w_830 w_851 (Nat.le_of_ble_eq_true rfl) dX11_fix_3 rfl (fun v1 => ?_)
    refine q_cVI hC hnt (stk := []) (as := [.int v1]) sX11_is (ci := 11) (by decide) rfl nX11_is rfl w_838 w_840 w_841 w_830 w_839 (Nat.le_of_ble_eq_true rfl) dX11_fix_6 rfl (fun v2 => ?_)
    refine q_if_eq hC 31 dX11_fix_9 rfl ?_ ?_
    · refine q_iconst hC dX11_fix_31 rfl ?_
      exact q_zret hC dX11_fix_32 (Nat.le_of_ble_eq_true rfl) (Nat.le_of_ble_eq_true rfl)
    · refine q_aload_n hC 0 dX11_fix_12 rfl rfl ?_
      refine q_iload_n hC 2 dX11_fix_13 rfl rfl ?_
      refine q_i2l hC dX11_fix_14 ?_
      refine q_ldc2 hC w_1164 dX11_fix_15 ?_
      refine q_ldc2 hC w_1165 dX11_fix_18 ?_
      refine q_cSI hC hnt (stk := [.ref x0]) (as := [.long (x2.toInt64), .long (-99999), .long 99999]) sX11_isIn nX11_isIn rfl w_847 w_849 w_830 w_848 (Nat.le_of_ble_eq_true rfl) dX11_fix_21 rfl (fun v3 => ?_)
      refine q_iconst hC dX11_fix_24 rfl ?_
      refine q_cVI hC hnt (stk := []) (as := [.int v3, .int 2]) sX11_may (ci := 11) (by decide) rfl nX11_may rfl w_1065 w_1067 w_1068 w_830 w_1066 (Nat.le_of_ble_eq_true rfl) dX11_fix_25 rfl (fun v4 => ?_)
      refine q_if_ne hC 33 dX11_fix_28 rfl ?_ ?_
      · refine q_aload_n hC 0 dX11_fix_33 rfl rfl ?_
        refine q_cVV hC hnt (stk := []) (as := []) sX11_starts (ci := 11) (by decide) rfl nX11_starts rfl w_1147 w_1149 w_1150 w_830 w_1148 (Nat.le_of_ble_eq_true rfl) dX11_fix_34 rfl ?_
        refine q_aload_n hC 0 dX11_fix_37 rfl rfl ?_
        refine q_iload_n hC 1 dX11_fix_38 rfl rfl ?_
        refine q_iconst hC dX11_fix_39 rfl ?_
        refine q_cVI hC hnt (stk := []) (as := [.int x1, .int 2]) sX11_of (ci := 11) (by decide) rfl nX11_of rfl w_862 w_864 w_865 w_830 w_863 (Nat.le_of_ble_eq_true rfl) dX11_fix_40 rfl (fun v5 => ?_)
        refine q_istore_nA hC (loc' := [(3, .int v5), (0, .ref x0), (1, .int x1), (2, .int x2)]) dX11_fix_43 rfl (Nat.le_of_ble_eq_true rfl) rfl ?_
        refine q_aload_n hC 1 dX11_fix_44 rfl rfl ?_
        refine q_iload_n hC 2 dX11_fix_45 rfl rfl ?_
        refine q_iconst hC dX11_fix_46 rfl ?_
        refine q_iconst hC dX11_fix_47 rfl ?_
        refine q_cVV hC hnt (stk := []) (as := [.int x1, .int 2, .int 1]) sX11_lays (ci := 11) (by decide) rfl nX11_lays rfl w_1024 w_1026 w_1027 w_830 w_1025 (Nat.le_of_ble_eq_true rfl) dX11_fix_48 rfl ?_
        refine q_aload_n hC 1 dX11_fix_51 rfl rfl ?_
        refine q_iload_n hC 2 dX11_fix_52 rfl rfl ?_
        refine q_iconst hC dX11_fix_53 rfl ?_
        refine q_iconst hC dX11_fix_54 rfl ?_
        refine q_cVV hC hnt (stk := []) (as := [.int x1, .int 3, .int 1]) sX11_lays (ci := 11) (by decide) rfl nX11_lays rfl w_1024 w_1026 w_1027 w_830 w_1025 (Nat.le_of_ble_eq_true rfl) dX11_fix_55 rfl ?_
        refine q_aload_n hC 1 dX11_fix_58 rfl rfl ?_
        refine q_iload_n hC 2 dX11_fix_59 rfl rfl ?_
        refine q_iconst hC dX11_fix_60 rfl ?_
        refine q_iload_n hC 3 dX11_fix_61 rfl rfl ?_
        refine q_cVV hC hnt (stk := []) (as := [.int x1, .int 4, .int x2]) sX11_lays (ci := 11) (by decide) rfl nX11_lays rfl w_1024 w_1026 w_1027 w_830 w_1025 (Nat.le_of_ble_eq_true rfl) dX11_fix_62 rfl ?_
        refine q_aload_n hC 1 dX11_fix_65 rfl rfl ?_
        refine q_iload_n hC 0 dX11_fix_66 rfl rfl ?_
        refine q_cVI hC hnt (stk := []) (as := [.int v5]) sX11_done (ci := 11) (by decide) rfl nX11_done rfl w_1155 w_1157 w_1158 w_830 w_1156 (Nat.le_of_ble_eq_true rfl) dX11_fix_67 rfl (fun v6 => ?_)
        refine q_iconst hC dX11_fix_70 rfl ?_
        refine q_ic_ne hC 78 dX11_fix_71 rfl ?_ ?_
        · refine q_iconst hC dX11_fix_78 rfl ?_
          exact q_zret hC dX11_fix_79 (Nat.le_of_ble_eq_true rfl) (Nat.le_of_ble_eq_true rfl)
        · refine q_iconst hC dX11_fix_74 rfl ?_
          refine q_goto hC 79 dX11_fix_75 rfl ?_
          exact q_zret hC dX11_fix_79 (Nat.le_of_ble_eq_true rfl) (Nat.le_of_ble_eq_true rfl)
      · refine q_iconst hC dX11_fix_31 rfl ?_
        exact q_zret hC dX11_fix_32 (Nat.le_of_ble_eq_true rfl) (Nat.le_of_ble_eq_true rfl)
  · exact c_no
theorem sX11_fix : Snd yX11_fix (.code yX11_fix cX11_fix 4 (some .boolean)) rmX11_fix SX11_fix := by
  refine Snd.of lX11_fix (by decide +kernel) (fun _ => rfl) ?_
  intro Γ hC hnt hnm J hJ L a
  match L with
  | 0 => exact pX11_fix_0 hC hnt J hJ a
  | L + 1 => exact c_no
/-! SpiritWallModel.free(I)I -/
theorem dX11_free_0 : decode cX11_free 0 = .ok (.aload_n 0, 1) := by decide +kernel
theorem dX11_free_1 : decode cX11_free 1 = .ok (.aload_n 0, 1) := by decide +kernel
theorem dX11_free_2 : decode cX11_free 2 = .ok (.iload_n 1, 1) := by decide +kernel
theorem dX11_free_3 : decode cX11_free 3 = .ok (.invokevirtual 93, 3) := by decide +kernel
theorem dX11_free_6 : decode cX11_free 6 = .ok (.invokevirtual 77, 3) := by decide +kernel
theorem dX11_free_9 : decode cX11_free 9 = .ok (.ifCond .eq 16, 3) := by decide +kernel
theorem dX11_free_12 : decode cX11_free 12 = .ok (.aload_n 0, 1) := by decide +kernel
theorem dX11_free_13 : decode cX11_free 13 = .ok (.aload_n 0, 1) := by decide +kernel
theorem dX11_free_14 : decode cX11_free 14 = .ok (.iload_n 1, 1) := by decide +kernel
theorem dX11_free_15 : decode cX11_free 15 = .ok (.invokevirtual 254, 3) := by decide +kernel
theorem dX11_free_18 : decode cX11_free 18 = .ok (.iconst 2, 1) := by decide +kernel
theorem dX11_free_19 : decode cX11_free 19 = .ok (.invokevirtual 283, 3) := by decide +kernel
theorem dX11_free_22 : decode cX11_free 22 = .ok (.ifCond .ne 5, 3) := by decide +kernel
theorem dX11_free_25 : decode cX11_free 25 = .ok (.iconst 0, 1) := by decide +kernel
theorem dX11_free_26 : decode cX11_free 26 = .ok (.ireturn, 1) := by decide +kernel
theorem dX11_free_27 : decode cX11_free 27 = .ok (.aload_n 0, 1) := by decide +kernel
theorem dX11_free_28 : decode cX11_free 28 = .ok (.invokevirtual 362, 3) := by decide +kernel
theorem dX11_free_31 : decode cX11_free 31 = .ok (.aload_n 0, 1) := by decide +kernel
theorem dX11_free_32 : decode cX11_free 32 = .ok (.iload_n 1, 1) := by decide +kernel
theorem dX11_free_33 : decode cX11_free 33 = .ok (.iconst 2, 1) := by decide +kernel
theorem dX11_free_34 : decode cX11_free 34 = .ok (.iconst 0, 1) := by decide +kernel
theorem dX11_free_35 : decode cX11_free 35 = .ok (.invokevirtual 247, 3) := by decide +kernel
theorem dX11_free_38 : decode cX11_free 38 = .ok (.aload_n 0, 1) := by decide +kernel
theorem dX11_free_39 : decode cX11_free 39 = .ok (.aload_n 0, 1) := by decide +kernel
theorem dX11_free_40 : decode cX11_free 40 = .ok (.invokevirtual 260, 3) := by decide +kernel
theorem dX11_free_43 : decode cX11_free 43 = .ok (.invokevirtual 369, 3) := by decide +kernel
theorem dX11_free_46 : decode cX11_free 46 = .ok (.ireturn, 1) := by decide +kernel
def rmX11_free : Room := rmk 8 0 0 196
theorem nX11_free : nameOk yX11_free 1 = true := by decide +kernel
def bX11_free_0 (J : JT) : List Value → Sem
  | [.ref x0, .int x1] =>
    ob 11 x0 (cI SX11_isMark [.ref x0, .int x1] fun v1 =>
    ob 11 x0 (cI SX11_is [.ref x0, .int v1] fun v2 =>
    br (v2 = 0)
    (rI 0)
    (ob 11 x0 (cI SX11_isBench [.ref x0, .int x1] fun v3 =>
    ob 11 x0 (cI SX11_may [.ref x0, .int v3, .int 2] fun v4 =>
    br (v4 = 0)
    (rI 0)
    (ob 11 x0 (cV SX11_starts [.ref x0] <|
    ob 11 x0 (cV SX11_lays [.ref x0, .int x1, .int 2, .int 0] <|
    ob 11 x0 (cI SX11_benches [.ref x0] fun v5 =>
    ob 11 x0 (cI SX11_done [.ref x0, .int v5] fun v6 =>
    rI v6))))))))))
  | _ => no
def bX11_free (J : JT) : JT := fun L a => match L with
  | 0 => bX11_free_0 J a
  | _ => no
def SX11_free : ST := mk 2 bX11_free
def lX11_free (L : Nat) (a : List Value) : Nat × Nat × Nat × List (Nat × Value) × List Value := match L with
  | 0 => (0, 0, 0, lv_args 0 a, [])
  | _ => (0, 0, 0, [], [])
theorem pX11_free_0 {Γ : CT} (hC : Ctx Γ "SpiritWallModel" cX11_free 2 (some .int) rmX11_free) (hnt : NT Γ) (J : JT) (hJ : ∀ L a, Cor Γ 2 (lX11_free L a).1 (lX11_free L a).2.1 (lX11_free L a).2.2.1 (lX11_free L a).2.2.2.1 (lX11_free L a).2.2.2.2 (J L a)) (a : List Value) : Cor Γ 2 0 0 0 (lv_args 0 a) [] (bX11_free_0 J a) := by
  unfold bX11_free_0
  split
  · rename_i x0 x1
    refine c_sub [0, 1] rfl (loc' := [(0, .ref x0), (1, .int x1)]) ?_
    refine q_aload_n hC 0 dX11_free_0 rfl rfl ?_
    refine q_aload_n hC 0 dX11_free_1 rfl rfl ?_
    refine q_iload_n hC 1 dX11_free_2 rfl rfl ?_
    refine q_cVI hC hnt (stk := [.ref x0]) (as := [.int x1]) sX11_isMark (ci := 11) (by decide) rfl nX11_isMark rfl w_850 w_852 w_853 w_830 w_851 (Nat.le_of_ble_eq_true rfl) dX11_free_3 rfl (fun v1 => ?_)
    refine q_cVI hC hnt (stk := []) (as := [.int v1]) sX11_is (ci := 11) (by decide) rfl nX11_is rfl w_838 w_840 w_841 w_830 w_839 (Nat.le_of_ble_eq_true rfl) dX11_free_6 rfl (fun v2 => ?_)
    refine q_if_eq hC 25 dX11_free_9 rfl ?_ ?_
    · refine q_iconst hC dX11_free_25 rfl ?_
      exact q_iret hC dX11_free_26 (Nat.le_of_ble_eq_true rfl) (Nat.le_of_ble_eq_true rfl)
    · refine q_aload_n hC 0 dX11_free_12 rfl rfl ?_
      refine q_aload_n hC 0 dX11_free_13 rfl rfl ?_
      refine q_iload_n hC 1 dX11_free_14 rfl rfl ?_
      refine q_cVI hC hnt (stk := [.ref x0]) (as := [.int x1]) sX11_isBench (ci := 11) (by decide) rfl nX11_isBench rfl w_1028 w_1030 w_1031 w_830 w_1029 (Nat.le_of_ble_eq_true rfl) dX11_free_15 rfl (fun v3 => ?_)
      refine q_iconst hC dX11_free_18 rfl ?_
      refine q_cVI hC hnt (stk := []) (as := [.int v3, .int 2]) sX11_may (ci := 11) (by decide) rfl nX11_may rfl w_1065 w_1067 w_1068 w_830 w_1066 (Nat.le_of_ble_eq_true rfl) dX11_free_19 rfl (fun v4 => ?_)
      refine q_if_ne hC 27 dX11_free_22 rfl ?_ ?_
      · refine q_aload_n hC 0 dX11_free_27 rfl rfl ?_
        refine q_cVV hC hnt (stk := []) (as := []) sX11_starts (ci := 11) (by decide) rfl nX11_starts rfl w_1147 w_1149 w_1150 w_830 w_1148 (Nat.le_of_ble_eq_true rfl) dX11_free_28 rfl ?_
        refine q_aload_n hC 0 dX11_free_31 rfl rfl ?_
        refine q_iload_n hC 1 dX11_free_32 rfl rfl ?_
        refine q_iconst hC dX11_free_33 rfl ?_
        refine q_iconst hC dX11_free_34 rfl ?_
        refine q_cVV hC hnt (stk := []) (as := [.int x1, .int 2, .int 0]) sX11_lays (ci := 11) (by decide) rfl nX11_lays rfl w_1024 w_1026 w_1027 w_830 w_1025 (Nat.le_of_ble_eq_true rfl) dX11_free_35 rfl ?_
        refine q_aload_n hC 0 dX11_free_38 rfl rfl ?_
        refine q_aload_n hC 0 dX11_free_39 rfl rfl ?_
        refine q_cVI hC hnt (stk := [.ref x0]) (as := []) sX11_benches (ci := 11) (by decide) rfl nX11_benches rfl w_1036 w_1038 w_1039 w_830 w_1037 (Nat.le_of_ble_eq_true rfl) dX11_free_40 rfl (fun v5 => ?_)
        refine q_cVI hC hnt (stk := []) (as := [.int v5]) sX11_done (ci := 11) (by decide) rfl nX11_done rfl w_1155 w_1157 w_1158 w_830 w_1156 (Nat.le_of_ble_eq_true rfl) dX11_free_43 rfl (fun v6 => ?_)
        exact q_iret hC dX11_free_46 (Nat.le_of_ble_eq_true rfl) (Nat.le_of_ble_eq_true rfl)
      · refine q_iconst hC dX11_free_25 rfl ?_
        exact q_iret hC dX11_free_26 (Nat.le_of_ble_eq_true rfl) (Nat.le_of_ble_eq_true rfl)
  · exact c_no
theorem sX11_free : Snd yX11_free (.code yX11_free cX11_free 2 (some .int)) rmX11_free SX11_free := by
  refine Snd.of lX11_free (by decide +kernel) (fun _ => rfl) ?_
  intro Γ hC hnt hnm J hJ L a
  match L with
  | 0 => exact pX11_free_0 hC hnt J hJ a
  | L + 1 => exact c_no
/-! SpiritWallModel.level()I -/
theorem dX11_level_0 : decode cX11_level 0 = .ok (.aload_n 0, 1) := by decide +kernel
theorem dX11_level_1 : decode cX11_level 1 = .ok (.iconst 0, 1) := by decide +kernel
theorem dX11_level_2 : decode cX11_level 2 = .ok (.putfield 67, 3) := by decide +kernel
theorem dX11_level_5 : decode cX11_level 5 = .ok (.aload_n 0, 1) := by decide +kernel
theorem dX11_level_6 : decode cX11_level 6 = .ok (.invokevirtual 362, 3) := by decide +kernel
theorem dX11_level_9 : decode cX11_level 9 = .ok (.aload_n 0, 1) := by decide +kernel
theorem dX11_level_10 : decode cX11_level 10 = .ok (.invokevirtual 344, 3) := by decide +kernel
theorem dX11_level_13 : decode cX11_level 13 = .ok (.aload_n 0, 1) := by decide +kernel
theorem dX11_level_14 : decode cX11_level 14 = .ok (.aload_n 0, 1) := by decide +kernel
theorem dX11_level_15 : decode cX11_level 15 = .ok (.invokevirtual 269, 3) := by decide +kernel
theorem dX11_level_18 : decode cX11_level 18 = .ok (.invokevirtual 369, 3) := by decide +kernel
theorem dX11_level_21 : decode cX11_level 21 = .ok (.ireturn, 1) := by decide +kernel
def rmX11_level : Room := rmk 16 0 0 380
theorem nX11_level : nameOk yX11_level 0 = true := by decide +kernel
def bX11_level_0 (J : JT) : List Value → Sem
  | [.ref x0] =>
    pI 11 0 x0 0 <|
    ob 11 x0 (cV SX11_starts [.ref x0] <|
    ob 11 x0 (cV SX11_levels [.ref x0] <|
    ob 11 x0 (cI SX11_withHeights [.ref x0] fun v1 =>
    ob 11 x0 (cI SX11_done [.ref x0, .int v1] fun v2 =>
    rI v2))))
  | _ => no
def bX11_level (J : JT) : JT := fun L a => match L with
  | 0 => bX11_level_0 J a
  | _ => no
def SX11_level : ST := mk 1 bX11_level
def lX11_level (L : Nat) (a : List Value) : Nat × Nat × Nat × List (Nat × Value) × List Value := match L with
  | 0 => (0, 0, 0, lv_args 0 a, [])
  | _ => (0, 0, 0, [], [])
theorem pX11_level_0 {Γ : CT} (hC : Ctx Γ "SpiritWallModel" cX11_level 1 (some .int) rmX11_level) (hnt : NT Γ) (J : JT) (hJ : ∀ L a, Cor Γ 1 (lX11_level L a).1 (lX11_level L a).2.1 (lX11_level L a).2.2.1 (lX11_level L a).2.2.2.1 (lX11_level L a).2.2.2.2 (J L a)) (a : List Value) : Cor Γ 1 0 0 0 (lv_args 0 a) [] (bX11_level_0 J a) := by
  unfold bX11_level_0
  split
  · rename_i x0
    refine c_sub [0] rfl (loc' := [(0, .ref x0)]) ?_
    refine q_aload_n hC 0 dX11_level_0 rfl rfl ?_
    refine q_iconst hC dX11_level_1 rfl ?_
    refine q_putI hC (by decide) (by decide) rfl rfl w_833 dX11_level_2 ?_
    refine q_aload_n hC 0 dX11_level_5 rfl rfl ?_
    refine q_cVV hC hnt (stk := []) (as := []) sX11_starts (ci := 11) (by decide) rfl nX11_starts rfl w_1147 w_1149 w_1150 w_830 w_1148 (Nat.le_of_ble_eq_true rfl) dX11_level_6 rfl ?_
    refine q_aload_n hC 0 dX11_level_9 rfl rfl ?_
    refine q_cVV hC hnt (stk := []) (as := []) sX11_levels (ci := 11) (by decide) rfl nX11_levels rfl w_1134 w_1136 w_1137 w_830 w_1135 (Nat.le_of_ble_eq_true rfl) dX11_level_10 rfl ?_
    refine q_aload_n hC 0 dX11_level_13 rfl rfl ?_
    refine q_aload_n hC 0 dX11_level_14 rfl rfl ?_
    refine q_cVI hC hnt (stk := [.ref x0]) (as := []) sX11_withHeights (ci := 11) (by decide) rfl nX11_withHeights rfl w_1048 w_1050 w_1051 w_830 w_1049 (Nat.le_of_ble_eq_true rfl) dX11_level_15 rfl (fun v1 => ?_)
    refine q_cVI hC hnt (stk := []) (as := [.int v1]) sX11_done (ci := 11) (by decide) rfl nX11_done rfl w_1155 w_1157 w_1158 w_830 w_1156 (Nat.le_of_ble_eq_true rfl) dX11_level_18 rfl (fun v2 => ?_)
    exact q_iret hC dX11_level_21 (Nat.le_of_ble_eq_true rfl) (Nat.le_of_ble_eq_true rfl)
  · exact c_no
theorem sX11_level : Snd yX11_level (.code yX11_level cX11_level 1 (some .int)) rmX11_level SX11_level := by
  refine Snd.of lX11_level (by decide +kernel) (fun _ => rfl) ?_
  intro Γ hC hnt hnm J hJ L a
  match L with
  | 0 => exact pX11_level_0 hC hnt J hJ a
  | L + 1 => exact c_no
/-! SpiritWallModel.relax(I)I -/
theorem dX11_relax_0 : decode cX11_relax 0 = .ok (.aload_n 0, 1) := by decide +kernel
theorem dX11_relax_1 : decode cX11_relax 1 = .ok (.iload_n 1, 1) := by decide +kernel
theorem dX11_relax_2 : decode cX11_relax 2 = .ok (.i2l, 1) := by decide +kernel
theorem dX11_relax_3 : decode cX11_relax 3 = .ok (.lconst 1, 1) := by decide +kernel
theorem dX11_relax_4 : decode cX11_relax 4 = .ok (.ldc2_w 339, 3) := by decide +kernel
theorem dX11_relax_7 : decode cX11_relax 7 = .ok (.invokestatic 89, 3) := by decide +kernel
theorem dX11_relax_10 : decode cX11_relax 10 = .ok (.invokevirtual 77, 3) := by decide +kernel
theorem dX11_relax_13 : decode cX11_relax 13 = .ok (.ifCond .ne 5, 3) := by decide +kernel
theorem dX11_relax_16 : decode cX11_relax 16 = .ok (.iconst 0, 1) := by decide +kernel
theorem dX11_relax_17 : decode cX11_relax 17 = .ok (.ireturn, 1) := by decide +kernel
theorem dX11_relax_18 : decode cX11_relax 18 = .ok (.aload_n 0, 1) := by decide +kernel
theorem dX11_relax_19 : decode cX11_relax 19 = .ok (.invokevirtual 362, 3) := by decide +kernel
theorem dX11_relax_22 : decode cX11_relax 22 = .ok (.aload_n 0, 1) := by decide +kernel
theorem dX11_relax_23 : decode cX11_relax 23 = .ok (.aload_n 0, 1) := by decide +kernel
theorem dX11_relax_24 : decode cX11_relax 24 = .ok (.iload_n 1, 1) := by decide +kernel
theorem dX11_relax_25 : decode cX11_relax 25 = .ok (.invokevirtual 347, 3) := by decide +kernel
theorem dX11_relax_28 : decode cX11_relax 28 = .ok (.invokevirtual 369, 3) := by decide +kernel
theorem dX11_relax_31 : decode cX11_relax 31 = .ok (.ireturn, 1) := by decide +kernel
def rmX11_relax : Room := rmk 16 0 0 381
theorem nX11_relax : nameOk yX11_relax 1 = true := by decide +kernel
def bX11_relax_0 (J : JT) : List Value → Sem
  | [.ref x0, .int x1] =>
    cI SX11_isIn [.long (x1.toInt64), .long 1, .long 50] fun v1 =>
    ob 11 x0 (cI SX11_is [.ref x0, .int v1] fun v2 =>
    br (v2 = 0)
    (rI 0)
    (ob 11 x0 (cV SX11_starts [.ref x0] <|
    ob 11 x0 (cI SX11_rounds [.ref x0, .int x1] fun v3 =>
    ob 11 x0 (cI SX11_done [.ref x0, .int v3] fun v4 =>
    rI v4)))))
  | _ => no
def bX11_relax (J : JT) : JT := fun L a => match L with
  | 0 => bX11_relax_0 J a
  | _ => no
def SX11_relax : ST := mk 2 bX11_relax
def lX11_relax (L : Nat) (a : List Value) : Nat × Nat × Nat × List (Nat × Value) × List Value := match L with
  | 0 => (0, 0, 0, lv_args 0 a, [])
  | _ => (0, 0, 0, [], [])
theorem pX11_relax_0 {Γ : CT} (hC : Ctx Γ "SpiritWallModel" cX11_relax 2 (some .int) rmX11_relax) (hnt : NT Γ) (J : JT) (hJ : ∀ L a, Cor Γ 2 (lX11_relax L a).1 (lX11_relax L a).2.1 (lX11_relax L a).2.2.1 (lX11_relax L a).2.2.2.1 (lX11_relax L a).2.2.2.2 (J L a)) (a : List Value) : Cor Γ 2 0 0 0 (lv_args 0 a) [] (bX11_relax_0 J a) := by
  unfold bX11_relax_0
  split
  · rename_i x0 x1
    refine c_sub [0, 1] rfl (loc' := [(0, .ref x0), (1, .int x1)]) ?_
    refine q_aload_n hC 0 dX11_relax_0 rfl rfl ?_
    refine q_iload_n hC 1 dX11_relax_1 rfl rfl ?_
    refine q_i2l hC dX11_relax_2 ?_
    refine q_lconst hC (v := 1) dX11_relax_3 rfl ?_
    refine q_ldc2 hC w_1129 dX11_relax_4 ?_
    refine q_cSI hC hnt (stk := [.ref x0]) (as := [.long (x1.toInt64), .long 1, .long 50]) sX11_isIn nX11_isIn rfl w_847 w_849 w_830 w_848 (Nat.le_of_ble_eq_true rfl) dX11_relax_7 rfl (fun v1 => ?_)
    refine q_cVI hC hnt (stk := []) (as := [.int v1]) sX11_is (ci := 11) (by decide) rfl nX11_is rfl w_838 w_840 w_841 w_830 w_839 (Nat.le_of_ble_eq_true rfl) dX11_relax_10 rfl (fun v2 => ?_)
    refine q_if_ne hC 18 dX11_relax_13 rfl ?_ ?_
    · refine q_aload_n hC 0 dX11_relax_18 rfl rfl ?_
      refine q_cVV hC hnt (stk := []) (as := []) sX11_starts (ci := 11) (by decide) rfl nX11_starts rfl w_1147 w_1149 w_1150 w_830 w_1148 (Nat.le_of_ble_eq_true rfl) dX11_relax_19 rfl ?_
      refine q_aload_n hC 0 dX11_relax_22 rfl rfl ?_
      refine q_aload_n hC 0 dX11_relax_23 rfl rfl ?_
      refine q_iload_n hC 1 dX11_relax_24 rfl rfl ?_
      refine q_cVI hC hnt (stk := [.ref x0]) (as := [.int x1]) sX11_rounds (ci := 11) (by decide) rfl nX11_rounds rfl w_1138 w_1140 w_1141 w_830 w_1139 (Nat.le_of_ble_eq_true rfl) dX11_relax_25 rfl (fun v3 => ?_)
      refine q_cVI hC hnt (stk := []) (as := [.int v3]) sX11_done (ci := 11) (by decide) rfl nX11_done rfl w_1155 w_1157 w_1158 w_830 w_1156 (Nat.le_of_ble_eq_true rfl) dX11_relax_28 rfl (fun v4 => ?_)
      exact q_iret hC dX11_relax_31 (Nat.le_of_ble_eq_true rfl) (Nat.le_of_ble_eq_true rfl)
    · refine q_iconst hC dX11_relax_16 rfl ?_
      exact q_iret hC dX11_relax_17 (Nat.le_of_ble_eq_true rfl) (Nat.le_of_ble_eq_true rfl)
  · exact c_no
theorem sX11_relax : Snd yX11_relax (.code yX11_relax cX11_relax 2 (some .int)) rmX11_relax SX11_relax := by
  refine Snd.of lX11_relax (by decide +kernel) (fun _ => rfl) ?_
  intro Γ hC hnt hnm J hJ L a
  match L with
  | 0 => exact pX11_relax_0 hC hnt J hJ a
  | L + 1 => exact c_no
/-! SpiritWallModel.tellError(I)I -/
theorem dX11_tellError_0 : decode cX11_tellError 0 = .ok (.aload_n 0, 1) := by decide +kernel
theorem dX11_tellError_1 : decode cX11_tellError 1 = .ok (.iload_n 1, 1) := by decide +kernel
theorem dX11_tellError_2 : decode cX11_tellError 2 = .ok (.i2l, 1) := by decide +kernel
theorem dX11_tellError_3 : decode cX11_tellError 3 = .ok (.ldc2_w 376, 3) := by decide +kernel
theorem dX11_tellError_6 : decode cX11_tellError 6 = .ok (.ldc2_w 378, 3) := by decide +kernel
theorem dX11_tellError_9 : decode cX11_tellError 9 = .ok (.invokestatic 89, 3) := by decide +kernel
theorem dX11_tellError_12 : decode cX11_tellError 12 = .ok (.invokevirtual 77, 3) := by decide +kernel
theorem dX11_tellError_15 : decode cX11_tellError 15 = .ok (.ifCond .ne 5, 3) := by decide +kernel
theorem dX11_tellError_18 : decode cX11_tellError 18 = .ok (.iconst 0, 1) := by decide +kernel
theorem dX11_tellError_19 : decode cX11_tellError 19 = .ok (.ireturn, 1) := by decide +kernel
theorem dX11_tellError_20 : decode cX11_tellError 20 = .ok (.aload_n 0, 1) := by decide +kernel
theorem dX11_tellError_21 : decode cX11_tellError 21 = .ok (.invokevirtual 362, 3) := by decide +kernel
theorem dX11_tellError_24 : decode cX11_tellError 24 = .ok (.aload_n 0, 1) := by decide +kernel
theorem dX11_tellError_25 : decode cX11_tellError 25 = .ok (.invokevirtual 164, 3) := by decide +kernel
theorem dX11_tellError_28 : decode cX11_tellError 28 = .ok (.istore_n 2, 1) := by decide +kernel
theorem dX11_tellError_29 : decode cX11_tellError 29 = .ok (.aload_n 0, 1) := by decide +kernel
theorem dX11_tellError_30 : decode cX11_tellError 30 = .ok (.getfield 7, 3) := by decide +kernel
theorem dX11_tellError_33 : decode cX11_tellError 33 = .ok (.bipush 6, 2) := by decide +kernel
theorem dX11_tellError_35 : decode cX11_tellError 35 = .ok (.iconst 1, 1) := by decide +kernel
theorem dX11_tellError_36 : decode cX11_tellError 36 = .ok (.iastore, 1) := by decide +kernel
theorem dX11_tellError_37 : decode cX11_tellError 37 = .ok (.aload_n 0, 1) := by decide +kernel
theorem dX11_tellError_38 : decode cX11_tellError 38 = .ok (.getfield 7, 3) := by decide +kernel
theorem dX11_tellError_41 : decode cX11_tellError 41 = .ok (.bipush 7, 2) := by decide +kernel
theorem dX11_tellError_43 : decode cX11_tellError 43 = .ok (.iload_n 1, 1) := by decide +kernel
theorem dX11_tellError_44 : decode cX11_tellError 44 = .ok (.iastore, 1) := by decide +kernel
theorem dX11_tellError_45 : decode cX11_tellError 45 = .ok (.aload_n 0, 1) := by decide +kernel
theorem dX11_tellError_46 : decode cX11_tellError 46 = .ok (.iload_n 2, 1) := by decide +kernel
theorem dX11_tellError_47 : decode cX11_tellError 47 = .ok (.invokevirtual 369, 3) := by decide +kernel
theorem dX11_tellError_50 : decode cX11_tellError 50 = .ok (.ireturn, 1) := by decide +kernel
def rmX11_tellError : Room := rmk 13 0 0 313
theorem nX11_tellError : nameOk yX11_tellError 1 = true := by decide +kernel
def bX11_tellError_0 (J : JT) : List Value → Sem
  | [.ref x0, .int x1] =>
    cI SX11_isIn [.long (x1.toInt64), .long (-999), .long 999] fun v1 =>
    ob 11 x0 (cI SX11_is [.ref x0, .int v1] fun v2 =>
    br (v2 = 0)
    (rI 0)
    (ob 11 x0 (cV SX11_starts [.ref x0] <|
    ob 11 x0 (cI SX11_errorNow [.ref x0] fun v3 =>
    gR 11 1 x0 fun r4 =>
    sA r4 6 1 <|
    gR 11 1 x0 fun r5 =>
    sA r5 7 x1 <|
    ob 11 x0 (cI SX11_done [.ref x0, .int v3] fun v6 =>
    rI v6)))))
  | _ => no
def bX11_tellError (J : JT) : JT := fun L a => match L with
  | 0 => bX11_tellError_0 J a
  | _ => no
def SX11_tellError : ST := mk 3 bX11_tellError
def lX11_tellError (L : Nat) (a : List Value) : Nat × Nat × Nat × List (Nat × Value) × List Value := match L with
  | 0 => (0, 0, 0, lv_args 0 a, [])
  | _ => (0, 0, 0, [], [])
theorem pX11_tellError_0 {Γ : CT} (hC : Ctx Γ "SpiritWallModel" cX11_tellError 3 (some .int) rmX11_tellError) (hnt : NT Γ) (J : JT) (hJ : ∀ L a, Cor Γ 3 (lX11_tellError L a).1 (lX11_tellError L a).2.1 (lX11_tellError L a).2.2.1 (lX11_tellError L a).2.2.2.1 (lX11_tellError L a).2.2.2.2 (J L a)) (a : List Value) : Cor Γ 3 0 0 0 (lv_args 0 a) [] (bX11_tellError_0 J a) := by
  unfold bX11_tellError_0
  split
  · rename_i x0 x1
    refine c_sub [0, 1] rfl (loc' := [(0, .ref x0), (1, .int x1)]) ?_
    refine q_aload_n hC 0 dX11_tellError_0 rfl rfl ?_
    refine q_iload_n hC 1 dX11_tellError_1 rfl rfl ?_
    refine q_i2l hC dX11_tellError_2 ?_
    refine q_ldc2 hC w_1166 dX11_tellError_3 ?_
    refine q_ldc2 hC w_1167 dX11_tellError_6 ?_
    refine q_cSI hC hnt (stk := [.ref x0]) (as := [.long (x1.toInt64), .long (-999), .long 999]) sX11_isIn nX11_isIn rfl w_847 w_849 w_830 w_848 (Nat.le_of_ble_eq_true rfl) dX11_tellError_9 rfl (fun v1 => ?_)
    refine q_cVI hC hnt (stk := []) (as := [.int v1]) sX11_is (ci := 11) (by decide) rfl nX11_is rfl w_838 w_840 w_841 w_830 w_839 (Nat.le_of_ble_eq_true rfl) dX11_tellError_12 rfl (fun v2 => ?_)
    refine q_if_ne hC 20 dX11_tellError_15 rfl ?_ ?_
    · refine q_aload_n hC 0 dX11_tellError_20 rfl rfl ?_
      refine q_cVV hC hnt (stk := []) (as := []) sX11_starts (ci := 11) (by decide) rfl nX11_starts rfl w_1147 w_1149 w_1150 w_830 w_1148 (Nat.le_of_ble_eq_true rfl) dX11_tellError_21 rfl ?_
      refine q_aload_n hC 0 dX11_tellError_24 rfl rfl ?_
      refine q_cVI hC hnt (stk := []) (as := []) sX11_errorNow (ci := 11) (by decide) rfl nX11_errorNow rfl w_920 w_922 w_923 w_830 w_921 (Nat.le_of_ble_eq_true rfl) dX11_tellError_25 rfl (fun v3 => ?_)
      refine q_istore_nA hC (loc' := [(2, .int v3), (0, .ref x0), (1, .int x1)]) dX11_tellError_28 rfl (Nat.le_of_ble_eq_true rfl) rfl ?_
      refine q_aload_n hC 1 dX11_tellError_29 rfl rfl ?_
      refine q_getR hC (by decide) (by decide) rfl w_808 dX11_tellError_30 (fun r4 => ?_)
      refine q_bipush hC (v := 6) dX11_tellError_33 rfl ?_
      refine q_iconst hC dX11_tellError_35 rfl ?_
      refine q_iast hC dX11_tellError_36 ?_
      refine q_aload_n hC 1 dX11_tellError_37 rfl rfl ?_
      refine q_getR hC (by decide) (by decide) rfl w_808 dX11_tellError_38 (fun r5 => ?_)
      refine q_bipush hC (v := 7) dX11_tellError_41 rfl ?_
      refine q_iload_n hC 2 dX11_tellError_43 rfl rfl ?_
      refine q_iast hC dX11_tellError_44 ?_
      refine q_aload_n hC 1 dX11_tellError_45 rfl rfl ?_
      refine q_iload_n hC 0 dX11_tellError_46 rfl rfl ?_
      refine q_cVI hC hnt (stk := []) (as := [.int v3]) sX11_done (ci := 11) (by decide) rfl nX11_done rfl w_1155 w_1157 w_1158 w_830 w_1156 (Nat.le_of_ble_eq_true rfl) dX11_tellError_47 rfl (fun v6 => ?_)
      exact q_iret hC dX11_tellError_50 (Nat.le_of_ble_eq_true rfl) (Nat.le_of_ble_eq_true rfl)
    · refine q_iconst hC dX11_tellError_18 rfl ?_
      exact q_iret hC dX11_tellError_19 (Nat.le_of_ble_eq_true rfl) (Nat.le_of_ble_eq_true rfl)
  · exact c_no
theorem sX11_tellError : Snd yX11_tellError (.code yX11_tellError cX11_tellError 3 (some .int)) rmX11_tellError SX11_tellError := by
  refine Snd.of lX11_tellError (by decide +kernel) (fun _ => rfl) ?_
  intro Γ hC hnt hnm J hJ L a
  match L with
  | 0 => exact pX11_tellError_0 hC hnt J hJ a
  | L + 1 => exact c_no
/-! SpiritWallModel.findError()I -/
theorem dX11_findError_0 : decode cX11_findError 0 = .ok (.aload_n 0, 1) := by decide +kernel
theorem dX11_findError_1 : decode cX11_findError 1 = .ok (.iconst 0, 1) := by decide +kernel
theorem dX11_findError_2 : decode cX11_findError 2 = .ok (.putfield 67, 3) := by decide +kernel
theorem dX11_findError_5 : decode cX11_findError 5 = .ok (.aload_n 0, 1) := by decide +kernel
theorem dX11_findError_6 : decode cX11_findError 6 = .ok (.invokevirtual 362, 3) := by decide +kernel
theorem dX11_findError_9 : decode cX11_findError 9 = .ok (.aload_n 0, 1) := by decide +kernel
theorem dX11_findError_10 : decode cX11_findError 10 = .ok (.getfield 7, 3) := by decide +kernel
theorem dX11_findError_13 : decode cX11_findError 13 = .ok (.bipush 6, 2) := by decide +kernel
theorem dX11_findError_15 : decode cX11_findError 15 = .ok (.iconst 0, 1) := by decide +kernel
theorem dX11_findError_16 : decode cX11_findError 16 = .ok (.iastore, 1) := by decide +kernel
theorem dX11_findError_17 : decode cX11_findError 17 = .ok (.aload_n 0, 1) := by decide +kernel
theorem dX11_findError_18 : decode cX11_findError 18 = .ok (.aload_n 0, 1) := by decide +kernel
theorem dX11_findError_19 : decode cX11_findError 19 = .ok (.invokevirtual 158, 3) := by decide +kernel
theorem dX11_findError_22 : decode cX11_findError 22 = .ok (.invokevirtual 369, 3) := by decide +kernel
theorem dX11_findError_25 : decode cX11_findError 25 = .ok (.ireturn, 1) := by decide +kernel
def rmX11_findError : Room := rmk 12 0 0 293
theorem nX11_findError : nameOk yX11_findError 0 = true := by decide +kernel
def bX11_findError_0 (J : JT) : List Value → Sem
  | [.ref x0] =>
    pI 11 0 x0 0 <|
    ob 11 x0 (cV SX11_starts [.ref x0] <|
    gR 11 1 x0 fun r1 =>
    sA r1 6 0 <|
    ob 11 x0 (cI SX11_foundError [.ref x0] fun v2 =>
    ob 11 x0 (cI SX11_done [.ref x0, .int v2] fun v3 =>
    rI v3)))
  | _ => no
def bX11_findError (J : JT) : JT := fun L a => match L with
  | 0 => bX11_findError_0 J a
  | _ => no
def SX11_findError : ST := mk 1 bX11_findError
def lX11_findError (L : Nat) (a : List Value) : Nat × Nat × Nat × List (Nat × Value) × List Value := match L with
  | 0 => (0, 0, 0, lv_args 0 a, [])
  | _ => (0, 0, 0, [], [])
theorem pX11_findError_0 {Γ : CT} (hC : Ctx Γ "SpiritWallModel" cX11_findError 1 (some .int) rmX11_findError) (hnt : NT Γ) (J : JT) (hJ : ∀ L a, Cor Γ 1 (lX11_findError L a).1 (lX11_findError L a).2.1 (lX11_findError L a).2.2.1 (lX11_findError L a).2.2.2.1 (lX11_findError L a).2.2.2.2 (J L a)) (a : List Value) : Cor Γ 1 0 0 0 (lv_args 0 a) [] (bX11_findError_0 J a) := by
  unfold bX11_findError_0
  split
  · rename_i x0
    refine c_sub [0] rfl (loc' := [(0, .ref x0)]) ?_
    refine q_aload_n hC 0 dX11_findError_0 rfl rfl ?_
    refine q_iconst hC dX11_findError_1 rfl ?_
    refine q_putI hC (by decide) (by decide) rfl rfl w_833 dX11_findError_2 ?_
    refine q_aload_n hC 0 dX11_findError_5 rfl rfl ?_
    refine q_cVV hC hnt (stk := []) (as := []) sX11_starts (ci := 11) (by decide) rfl nX11_starts rfl w_1147 w_1149 w_1150 w_830 w_1148 (Nat.le_of_ble_eq_true rfl) dX11_findError_6 rfl ?_
    refine q_aload_n hC 0 dX11_findError_9 rfl rfl ?_
    refine q_getR hC (by decide) (by decide) rfl w_808 dX11_findError_10 (fun r1 => ?_)
    refine q_bipush hC (v := 6) dX11_findError_13 rfl ?_
    refine q_iconst hC dX11_findError_15 rfl ?_
    refine q_iast hC dX11_findError_16 ?_
    refine q_aload_n hC 0 dX11_findError_17 rfl rfl ?_
    refine q_aload_n hC 0 dX11_findError_18 rfl rfl ?_
    refine q_cVI hC hnt (stk := [.ref x0]) (as := []) sX11_foundError (ci := 11) (by decide) rfl nX11_foundError rfl w_915 w_917 w_918 w_830 w_916 (Nat.le_of_ble_eq_true rfl) dX11_findError_19 rfl (fun v2 => ?_)
    refine q_cVI hC hnt (stk := []) (as := [.int v2]) sX11_done (ci := 11) (by decide) rfl nX11_done rfl w_1155 w_1157 w_1158 w_830 w_1156 (Nat.le_of_ble_eq_true rfl) dX11_findError_22 rfl (fun v3 => ?_)
    exact q_iret hC dX11_findError_25 (Nat.le_of_ble_eq_true rfl) (Nat.le_of_ble_eq_true rfl)
  · exact c_no
theorem sX11_findError : Snd yX11_findError (.code yX11_findError cX11_findError 1 (some .int)) rmX11_findError SX11_findError := by
  refine Snd.of lX11_findError (by decide +kernel) (fun _ => rfl) ?_
  intro Γ hC hnt hnm J hJ L a
  match L with
  | 0 => exact pX11_findError_0 hC hnt J hJ a
  | L + 1 => exact c_no
/-! SpiritWallModel.isSetting(II)Z -/
theorem dX11_isSetting_0 : decode cX11_isSetting 0 = .ok (.iload_n 0, 1) := by decide +kernel
theorem dX11_isSetting_1 : decode cX11_isSetting 1 = .ok (.tableswitch 73 0 3 #[31, 41, 51, 63], 31) := by decide +kernel
theorem dX11_isSetting_32 : decode cX11_isSetting 32 = .ok (.iload_n 1, 1) := by decide +kernel
theorem dX11_isSetting_33 : decode cX11_isSetting 33 = .ok (.i2l, 1) := by decide +kernel
theorem dX11_isSetting_34 : decode cX11_isSetting 34 = .ok (.lconst 1, 1) := by decide +kernel
theorem dX11_isSetting_35 : decode cX11_isSetting 35 = .ok (.ldc2_w 337, 3) := by decide +kernel
theorem dX11_isSetting_38 : decode cX11_isSetting 38 = .ok (.invokestatic 89, 3) := by decide +kernel
theorem dX11_isSetting_41 : decode cX11_isSetting 41 = .ok (.ireturn, 1) := by decide +kernel
theorem dX11_isSetting_42 : decode cX11_isSetting 42 = .ok (.iload_n 1, 1) := by decide +kernel
theorem dX11_isSetting_43 : decode cX11_isSetting 43 = .ok (.i2l, 1) := by decide +kernel
theorem dX11_isSetting_44 : decode cX11_isSetting 44 = .ok (.lconst 0, 1) := by decide +kernel
theorem dX11_isSetting_45 : decode cX11_isSetting 45 = .ok (.ldc2_w 380, 3) := by decide +kernel
theorem dX11_isSetting_48 : decode cX11_isSetting 48 = .ok (.invokestatic 89, 3) := by decide +kernel
theorem dX11_isSetting_51 : decode cX11_isSetting 51 = .ok (.ireturn, 1) := by decide +kernel
theorem dX11_isSetting_52 : decode cX11_isSetting 52 = .ok (.iload_n 1, 1) := by decide +kernel
theorem dX11_isSetting_53 : decode cX11_isSetting 53 = .ok (.i2l, 1) := by decide +kernel
theorem dX11_isSetting_54 : decode cX11_isSetting 54 = .ok (.ldc2_w 382, 3) := by decide +kernel
theorem dX11_isSetting_57 : decode cX11_isSetting 57 = .ok (.ldc2_w 380, 3) := by decide +kernel
theorem dX11_isSetting_60 : decode cX11_isSetting 60 = .ok (.invokestatic 89, 3) := by decide +kernel
theorem dX11_isSetting_63 : decode cX11_isSetting 63 = .ok (.ireturn, 1) := by decide +kernel
theorem dX11_isSetting_64 : decode cX11_isSetting 64 = .ok (.iload_n 1, 1) := by decide +kernel
theorem dX11_isSetting_65 : decode cX11_isSetting 65 = .ok (.i2l, 1) := by decide +kernel
theorem dX11_isSetting_66 : decode cX11_isSetting 66 = .ok (.lconst 0, 1) := by decide +kernel
theorem dX11_isSetting_67 : decode cX11_isSetting 67 = .ok (.ldc2_w 378, 3) := by decide +kernel
theorem dX11_isSetting_70 : decode cX11_isSetting 70 = .ok (.invokestatic 89, 3) := by decide +kernel
theorem dX11_isSetting_73 : decode cX11_isSetting 73 = .ok (.ireturn, 1) := by decide +kernel
theorem dX11_isSetting_74 : decode cX11_isSetting 74 = .ok (.iconst 0, 1) := by decide +kernel
theorem dX11_isSetting_75 : decode cX11_isSetting 75 = .ok (.ireturn, 1) := by decide +kernel
def rmX11_isSetting : Room := rmk 7 0 0 175
theorem nX11_isSetting : nameOk yX11_isSetting 2 = true := by decide +kernel
def bX11_isSetting_0 (J : JT) : List Value → Sem
  | [.int x0, .int x1] =>
    sw x0 (0) 4 fun k => match k with
    | 0 => (cI SX11_isIn [.long (x1.toInt64), .long 1, .long 9999] fun v1 =>
    rZ v1)
    | 1 => (cI SX11_isIn [.long (x1.toInt64), .long 0, .long 99] fun v2 =>
    rZ v2)
    | 2 => (cI SX11_isIn [.long (x1.toInt64), .long (-99), .long 99] fun v3 =>
    rZ v3)
    | 3 => (cI SX11_isIn [.long (x1.toInt64), .long 0, .long 999] fun v4 =>
    rZ v4)
    | _ => (rZ 0)
  | _ => no
def bX11_isSetting (J : JT) : JT := fun L a => match L with
  | 0 => bX11_isSetting_0 J a
  | _ => no
def SX11_isSetting : ST := mk 2 bX11_isSetting
def lX11_isSetting (L : Nat) (a : List Value) : Nat × Nat × Nat × List (Nat × Value) × List Value := match L with
  | 0 => (0, 0, 0, lv_args 0 a, [])
  | _ => (0, 0, 0, [], [])
theorem pX11_isSetting_0 {Γ : CT} (hC : Ctx Γ "SpiritWallModel" cX11_isSetting 2 (some .boolean) rmX11_isSetting) (hnt : NT Γ) (J : JT) (hJ : ∀ L a, Cor Γ 2 (lX11_isSetting L a).1 (lX11_isSetting L a).2.1 (lX11_isSetting L a).2.2.1 (lX11_isSetting L a).2.2.2.1 (lX11_isSetting L a).2.2.2.2 (J L a)) (a : List Value) : Cor Γ 2 0 0 0 (lv_args 0 a) [] (bX11_isSetting_0 J a) := by
  unfold bX11_isSetting_0
  split
  · rename_i x0 x1
    refine c_sub [0, 1] rfl (loc' := [(0, .int x0), (1, .int x1)]) ?_
    refine q_iload_n hC 0 dX11_isSetting_0 rfl rfl ?_
    refine q_sw hC (0) 4 (fun k => ([32, 42, 52, 64] : List Nat).getD k 74) dX11_isSetting_1 rfl rfl (by decide +kernel) rfl ?_
    intro i hi
    match i, hi with
    | 0, _ =>
      refine c_pc (pc' := 32) rfl ?_
      refine q_iload_n hC 1 dX11_isSetting_32 rfl rfl ?_
      refine q_i2l hC dX11_isSetting_33 ?_
      refine q_lconst hC (v := 1) dX11_isSetting_34 rfl ?_
      refine q_ldc2 hC w_1128 dX11_isSetting_35 ?_
      refine q_cSI hC hnt (stk := []) (as := [.long (x1.toInt64), .long 1, .long 9999]) sX11_isIn nX11_isIn rfl w_847 w_849 w_830 w_848 (Nat.le_of_ble_eq_true rfl) dX11_isSetting_38 rfl (fun v1 => ?_)
      exact q_zret hC dX11_isSetting_41 (Nat.le_of_ble_eq_true rfl) (Nat.le_of_ble_eq_true rfl)
    | 1, _ =>
      refine c_pc (pc' := 42) rfl ?_
      refine q_iload_n hC 1 dX11_isSetting_42 rfl rfl ?_
      refine q_i2l hC dX11_isSetting_43 ?_
      refine q_lconst hC (v := 0) dX11_isSetting_44 rfl ?_
      refine q_ldc2 hC w_1168 dX11_isSetting_45 ?_
      refine q_cSI hC hnt (stk := []) (as := [.long (x1.toInt64), .long 0, .long 99]) sX11_isIn nX11_isIn rfl w_847 w_849 w_830 w_848 (Nat.le_of_ble_eq_true rfl) dX11_isSetting_48 rfl (fun v2 => ?_)
      exact q_zret hC dX11_isSetting_51 (Nat.le_of_ble_eq_true rfl) (Nat.le_of_ble_eq_true rfl)
    | 2, _ =>
      refine c_pc (pc' := 52) rfl ?_
      refine q_iload_n hC 1 dX11_isSetting_52 rfl rfl ?_
      refine q_i2l hC dX11_isSetting_53 ?_
      refine q_ldc2 hC w_1169 dX11_isSetting_54 ?_
      refine q_ldc2 hC w_1168 dX11_isSetting_57 ?_
      refine q_cSI hC hnt (stk := []) (as := [.long (x1.toInt64), .long (-99), .long 99]) sX11_isIn nX11_isIn rfl w_847 w_849 w_830 w_848 (Nat.le_of_ble_eq_true rfl) dX11_isSetting_60 rfl (fun v3 => ?_)
      exact q_zret hC dX11_isSetting_63 (Nat.le_of_ble_eq_true rfl) (Nat.le_of_ble_eq_true rfl)
    | 3, _ =>
      refine c_pc (pc' := 64) rfl ?_
      refine q_iload_n hC 1 dX11_isSetting_64 rfl rfl ?_
      refine q_i2l hC dX11_isSetting_65 ?_
      refine q_lconst hC (v := 0) dX11_isSetting_66 rfl ?_
      refine q_ldc2 hC w_1167 dX11_isSetting_67 ?_
      refine q_cSI hC hnt (stk := []) (as := [.long (x1.toInt64), .long 0, .long 999]) sX11_isIn nX11_isIn rfl w_847 w_849 w_830 w_848 (Nat.le_of_ble_eq_true rfl) dX11_isSetting_70 rfl (fun v4 => ?_)
      exact q_zret hC dX11_isSetting_73 (Nat.le_of_ble_eq_true rfl) (Nat.le_of_ble_eq_true rfl)
    | 4, _ =>
      refine c_pc (pc' := 74) rfl ?_
      refine q_iconst hC dX11_isSetting_74 rfl ?_
      exact q_zret hC dX11_isSetting_75 (Nat.le_of_ble_eq_true rfl) (Nat.le_of_ble_eq_true rfl)
    | k + 5, h => exact absurd h (by omega)
  · exact c_no
theorem sX11_isSetting : Snd yX11_isSetting (.code yX11_isSetting cX11_isSetting 2 (some .boolean)) rmX11_isSetting SX11_isSetting := by
  refine Snd.of lX11_isSetting (by decide +kernel) (fun _ => rfl) ?_
  intro Γ hC hnt hnm J hJ L a
  match L with
  | 0 => exact pX11_isSetting_0 hC hnt J hJ a
  | L + 1 => exact c_no
/-! SpiritWallModel.set(II)I -/
theorem dX11_set_0 : decode cX11_set 0 = .ok (.aload_n 0, 1) := by decide +kernel
theorem dX11_set_1 : decode cX11_set 1 = .ok (.iload_n 1, 1) := by decide +kernel
theorem dX11_set_2 : decode cX11_set 2 = .ok (.iload_n 2, 1) := by decide +kernel
theorem dX11_set_3 : decode cX11_set 3 = .ok (.invokestatic 384, 3) := by decide +kernel
theorem dX11_set_6 : decode cX11_set 6 = .ok (.invokevirtual 77, 3) := by decide +kernel
theorem dX11_set_9 : decode cX11_set 9 = .ok (.ifCond .ne 5, 3) := by decide +kernel
theorem dX11_set_12 : decode cX11_set 12 = .ok (.iconst 0, 1) := by decide +kernel
theorem dX11_set_13 : decode cX11_set 13 = .ok (.ireturn, 1) := by decide +kernel
theorem dX11_set_14 : decode cX11_set 14 = .ok (.aload_n 0, 1) := by decide +kernel
theorem dX11_set_15 : decode cX11_set 15 = .ok (.invokevirtual 362, 3) := by decide +kernel
theorem dX11_set_18 : decode cX11_set 18 = .ok (.aload_n 0, 1) := by decide +kernel
theorem dX11_set_19 : decode cX11_set 19 = .ok (.getfield 7, 3) := by decide +kernel
theorem dX11_set_22 : decode cX11_set 22 = .ok (.iconst 2, 1) := by decide +kernel
theorem dX11_set_23 : decode cX11_set 23 = .ok (.iload_n 1, 1) := by decide +kernel
theorem dX11_set_24 : decode cX11_set 24 = .ok (.iadd, 1) := by decide +kernel
theorem dX11_set_25 : decode cX11_set 25 = .ok (.iaload, 1) := by decide +kernel
theorem dX11_set_26 : decode cX11_set 26 = .ok (.istore_n 3, 1) := by decide +kernel
theorem dX11_set_27 : decode cX11_set 27 = .ok (.aload_n 0, 1) := by decide +kernel
theorem dX11_set_28 : decode cX11_set 28 = .ok (.getfield 7, 3) := by decide +kernel
theorem dX11_set_31 : decode cX11_set 31 = .ok (.iconst 2, 1) := by decide +kernel
theorem dX11_set_32 : decode cX11_set 32 = .ok (.iload_n 1, 1) := by decide +kernel
theorem dX11_set_33 : decode cX11_set 33 = .ok (.iadd, 1) := by decide +kernel
theorem dX11_set_34 : decode cX11_set 34 = .ok (.iload_n 2, 1) := by decide +kernel
theorem dX11_set_35 : decode cX11_set 35 = .ok (.iastore, 1) := by decide +kernel
theorem dX11_set_36 : decode cX11_set 36 = .ok (.aload_n 0, 1) := by decide +kernel
theorem dX11_set_37 : decode cX11_set 37 = .ok (.iload_n 3, 1) := by decide +kernel
theorem dX11_set_38 : decode cX11_set 38 = .ok (.invokevirtual 369, 3) := by decide +kernel
theorem dX11_set_41 : decode cX11_set 41 = .ok (.ireturn, 1) := by decide +kernel
def rmX11_set : Room := rmk 8 0 0 196
theorem nX11_set : nameOk yX11_set 2 = true := by decide +kernel
def bX11_set_0 (J : JT) : List Value → Sem
  | [.ref x0, .int x1, .int x2] =>
    cI SX11_isSetting [.int x1, .int x2] fun v1 =>
    ob 11 x0 (cI SX11_is [.ref x0, .int v1] fun v2 =>
    br (v2 = 0)
    (rI 0)
    (ob 11 x0 (cV SX11_starts [.ref x0] <|
    gR 11 1 x0 fun r3 =>
    aI r3 (2 + x1) fun v4 =>
    gR 11 1 x0 fun r5 =>
    sA r5 (2 + x1) x2 <|
    ob 11 x0 (cI SX11_done [.ref x0, .int v4] fun v6 =>
    rI v6))))
  | _ => no
def bX11_set (J : JT) : JT := fun L a => match L with
  | 0 => bX11_set_0 J a
  | _ => no
def SX11_set : ST := mk 4 bX11_set
def lX11_set (L : Nat) (a : List Value) : Nat × Nat × Nat × List (Nat × Value) × List Value := match L with
  | 0 => (0, 0, 0, lv_args 0 a, [])
  | _ => (0, 0, 0, [], [])
theorem pX11_set_0 {Γ : CT} (hC : Ctx Γ "SpiritWallModel" cX11_set 4 (some .int) rmX11_set) (hnt : NT Γ) (J : JT) (hJ : ∀ L a, Cor Γ 4 (lX11_set L a).1 (lX11_set L a).2.1 (lX11_set L a).2.2.1 (lX11_set L a).2.2.2.1 (lX11_set L a).2.2.2.2 (J L a)) (a : List Value) : Cor Γ 4 0 0 0 (lv_args 0 a) [] (bX11_set_0 J a) := by
  unfold bX11_set_0
  split
  · rename_i x0 x1 x2
    refine c_sub [0, 1, 2] rfl (loc' := [(0, .ref x0), (1, .int x1), (2, .int x2)]) ?_
    refine q_aload_n hC 0 dX11_set_0 rfl rfl ?_
    refine q_iload_n hC 1 dX11_set_1 rfl rfl ?_
    refine q_iload_n hC 2 dX11_set_2 rfl rfl ?_
    refine q_cSI hC hnt (stk := [.ref x0]) (as := [.int x1, .int x2]) sX11_isSetting nX11_isSetting rfl w_1170 w_1172 w_830 w_1171 (Nat.le_of_ble_eq_true rfl) dX11_set_3 rfl (fun v1 => ?_)
    refine q_cVI hC hnt (stk := []) (as := [.int v1]) sX11_is (ci := 11) (by decide) rfl nX11_is rfl w_838 w_840 w_841 w_830 w_839 (Nat.le_of_ble_eq_true rfl) dX11_set_6 rfl (fun v2 => ?_)
    refine q_if_ne hC 14 dX11_set_9 rfl ?_ ?_
    · refine q_aload_n hC 0 dX11_set_14 rfl rfl ?_
      refine q_cVV hC hnt (stk := []) (as := []) sX11_starts (ci := 11) (by decide) rfl nX11_starts rfl w_1147 w_1149 w_1150 w_830 w_1148 (Nat.le_of_ble_eq_true rfl) dX11_set_15 rfl ?_
      refine q_aload_n hC 0 dX11_set_18 rfl rfl ?_
      refine q_getR hC (by decide) (by decide) rfl w_808 dX11_set_19 (fun r3 => ?_)
      refine q_iconst hC dX11_set_22 rfl ?_
      refine q_iload_n hC 1 dX11_set_23 rfl rfl ?_
      refine q_iadd hC dX11_set_24 ?_
      refine q_iald hC dX11_set_25 (fun v4 => ?_)
      refine q_istore_nA hC (loc' := [(3, .int v4), (0, .ref x0), (1, .int x1), (2, .int x2)]) dX11_set_26 rfl (Nat.le_of_ble_eq_true rfl) rfl ?_
      refine q_aload_n hC 1 dX11_set_27 rfl rfl ?_
      refine q_getR hC (by decide) (by decide) rfl w_808 dX11_set_28 (fun r5 => ?_)
      refine q_iconst hC dX11_set_31 rfl ?_
      refine q_iload_n hC 2 dX11_set_32 rfl rfl ?_
      refine q_iadd hC dX11_set_33 ?_
      refine q_iload_n hC 3 dX11_set_34 rfl rfl ?_
      refine q_iast hC dX11_set_35 ?_
      refine q_aload_n hC 1 dX11_set_36 rfl rfl ?_
      refine q_iload_n hC 0 dX11_set_37 rfl rfl ?_
      refine q_cVI hC hnt (stk := []) (as := [.int v4]) sX11_done (ci := 11) (by decide) rfl nX11_done rfl w_1155 w_1157 w_1158 w_830 w_1156 (Nat.le_of_ble_eq_true rfl) dX11_set_38 rfl (fun v6 => ?_)
      exact q_iret hC dX11_set_41 (Nat.le_of_ble_eq_true rfl) (Nat.le_of_ble_eq_true rfl)
    · refine q_iconst hC dX11_set_12 rfl ?_
      exact q_iret hC dX11_set_13 (Nat.le_of_ble_eq_true rfl) (Nat.le_of_ble_eq_true rfl)
  · exact c_no
theorem sX11_set : Snd yX11_set (.code yX11_set cX11_set 4 (some .int)) rmX11_set SX11_set := by
  refine Snd.of lX11_set (by decide +kernel) (fun _ => rfl) ?_
  intro Γ hC hnt hnm J hJ L a
  match L with
  | 0 => exact pX11_set_0 hC hnt J hJ a
  | L + 1 => exact c_no
/-! SpiritWallModel.feed(IIIII)I -/
theorem dX11_feed_0 : decode cX11_feed 0 = .ok (.aload_n 0, 1) := by decide +kernel
theorem dX11_feed_1 : decode cX11_feed 1 = .ok (.iconst 0, 1) := by decide +kernel
theorem dX11_feed_2 : decode cX11_feed 2 = .ok (.putfield 67, 3) := by decide +kernel
theorem dX11_feed_5 : decode cX11_feed 5 = .ok (.aload_n 0, 1) := by decide +kernel
theorem dX11_feed_6 : decode cX11_feed 6 = .ok (.getfield 387, 3) := by decide +kernel
theorem dX11_feed_9 : decode cX11_feed 9 = .ok (.bipush 20, 2) := by decide +kernel
theorem dX11_feed_11 : decode cX11_feed 11 = .ok (.iadd, 1) := by decide +kernel
theorem dX11_feed_12 : decode cX11_feed 12 = .ok (.sipush 900, 3) := by decide +kernel
theorem dX11_feed_15 : decode cX11_feed 15 = .ok (.if_icmp .le 5, 3) := by decide +kernel
theorem dX11_feed_18 : decode cX11_feed 18 = .ok (.iconst (-1), 1) := by decide +kernel
theorem dX11_feed_19 : decode cX11_feed 19 = .ok (.ireturn, 1) := by decide +kernel
theorem dX11_feed_20 : decode cX11_feed 20 = .ok (.iconst 0, 1) := by decide +kernel
theorem dX11_feed_21 : decode cX11_feed 21 = .ok (.istore 6, 2) := by decide +kernel
theorem dX11_feed_23 : decode cX11_feed 23 = .ok (.iload 6, 2) := by decide +kernel
theorem dX11_feed_25 : decode cX11_feed 25 = .ok (.bipush 20, 2) := by decide +kernel
theorem dX11_feed_27 : decode cX11_feed 27 = .ok (.if_icmp .ge 90, 3) := by decide +kernel
theorem dX11_feed_30 : decode cX11_feed 30 = .ok (.iload 6, 2) := by decide +kernel
theorem dX11_feed_32 : decode cX11_feed 32 = .ok (.iconst 4, 1) := by decide +kernel
theorem dX11_feed_33 : decode cX11_feed 33 = .ok (.if_icmp .ge 7, 3) := by decide +kernel
theorem dX11_feed_36 : decode cX11_feed 36 = .ok (.iload_n 1, 1) := by decide +kernel
theorem dX11_feed_37 : decode cX11_feed 37 = .ok (.goto 39, 3) := by decide +kernel
theorem dX11_feed_40 : decode cX11_feed 40 = .ok (.iload 6, 2) := by decide +kernel
theorem dX11_feed_42 : decode cX11_feed 42 = .ok (.bipush 8, 2) := by decide +kernel
theorem dX11_feed_44 : decode cX11_feed 44 = .ok (.if_icmp .ge 7, 3) := by decide +kernel
theorem dX11_feed_47 : decode cX11_feed 47 = .ok (.iload_n 2, 1) := by decide +kernel
theorem dX11_feed_48 : decode cX11_feed 48 = .ok (.goto 28, 3) := by decide +kernel
theorem dX11_feed_51 : decode cX11_feed 51 = .ok (.iload 6, 2) := by decide +kernel
theorem dX11_feed_53 : decode cX11_feed 53 = .ok (.bipush 12, 2) := by decide +kernel
theorem dX11_feed_55 : decode cX11_feed 55 = .ok (.if_icmp .ge 7, 3) := by decide +kernel
theorem dX11_feed_58 : decode cX11_feed 58 = .ok (.iload_n 3, 1) := by decide +kernel
theorem dX11_feed_59 : decode cX11_feed 59 = .ok (.goto 17, 3) := by decide +kernel
theorem dX11_feed_62 : decode cX11_feed 62 = .ok (.iload 6, 2) := by decide +kernel
theorem dX11_feed_64 : decode cX11_feed 64 = .ok (.bipush 16, 2) := by decide +kernel
theorem dX11_feed_66 : decode cX11_feed 66 = .ok (.if_icmp .ge 8, 3) := by decide +kernel
theorem dX11_feed_69 : decode cX11_feed 69 = .ok (.iload 4, 2) := by decide +kernel
theorem dX11_feed_71 : decode cX11_feed 71 = .ok (.goto 5, 3) := by decide +kernel
theorem dX11_feed_74 : decode cX11_feed 74 = .ok (.iload 5, 2) := by decide +kernel
theorem dX11_feed_76 : decode cX11_feed 76 = .ok (.istore 7, 2) := by decide +kernel
theorem dX11_feed_78 : decode cX11_feed 78 = .ok (.aload_n 0, 1) := by decide +kernel
theorem dX11_feed_79 : decode cX11_feed 79 = .ok (.getfield 53, 3) := by decide +kernel
theorem dX11_feed_82 : decode cX11_feed 82 = .ok (.aload_n 0, 1) := by decide +kernel
theorem dX11_feed_83 : decode cX11_feed 83 = .ok (.getfield 387, 3) := by decide +kernel
theorem dX11_feed_86 : decode cX11_feed 86 = .ok (.iload 7, 2) := by decide +kernel
theorem dX11_feed_88 : decode cX11_feed 88 = .ok (.bipush 24, 2) := by decide +kernel
theorem dX11_feed_90 : decode cX11_feed 90 = .ok (.bipush 8, 2) := by decide +kernel
theorem dX11_feed_92 : decode cX11_feed 92 = .ok (.iload 6, 2) := by decide +kernel
theorem dX11_feed_94 : decode cX11_feed 94 = .ok (.iconst 4, 1) := by decide +kernel
theorem dX11_feed_95 : decode cX11_feed 95 = .ok (.irem, 1) := by decide +kernel
theorem dX11_feed_96 : decode cX11_feed 96 = .ok (.imul, 1) := by decide +kernel
theorem dX11_feed_97 : decode cX11_feed 97 = .ok (.isub, 1) := by decide +kernel
theorem dX11_feed_98 : decode cX11_feed 98 = .ok (.ishr, 1) := by decide +kernel
theorem dX11_feed_99 : decode cX11_feed 99 = .ok (.i2b, 1) := by decide +kernel
theorem dX11_feed_100 : decode cX11_feed 100 = .ok (.bastore, 1) := by decide +kernel
theorem dX11_feed_101 : decode cX11_feed 101 = .ok (.aload_n 0, 1) := by decide +kernel
theorem dX11_feed_102 : decode cX11_feed 102 = .ok (.aload_n 0, 1) := by decide +kernel
theorem dX11_feed_103 : decode cX11_feed 103 = .ok (.getfield 387, 3) := by decide +kernel
theorem dX11_feed_106 : decode cX11_feed 106 = .ok (.iconst 1, 1) := by decide +kernel
theorem dX11_feed_107 : decode cX11_feed 107 = .ok (.iadd, 1) := by decide +kernel
theorem dX11_feed_108 : decode cX11_feed 108 = .ok (.putfield 387, 3) := by decide +kernel
theorem dX11_feed_111 : decode cX11_feed 111 = .ok (.iinc 6 1, 3) := by decide +kernel
theorem dX11_feed_114 : decode cX11_feed 114 = .ok (.goto (-91), 3) := by decide +kernel
theorem dX11_feed_117 : decode cX11_feed 117 = .ok (.aload_n 0, 1) := by decide +kernel
theorem dX11_feed_118 : decode cX11_feed 118 = .ok (.getfield 387, 3) := by decide +kernel
theorem dX11_feed_121 : decode cX11_feed 121 = .ok (.ireturn, 1) := by decide +kernel
def rmX11_feed : Room := rmk 6 0 0 150
theorem nX11_feed : nameOk yX11_feed 5 = true := by decide +kernel
def bX11_feed_0 (J : JT) : List Value → Sem
  | [.ref x0, .int x1, .int x2, .int x3, .int x4, .int x5] =>
    pI 11 0 x0 0 <|
    gI 11 20 x0 fun v1 =>
    br ((v1 + 20) ≤ (900 : Int32))
    (J 1 [.ref x0, .int x1, .int x2, .int x3, .int x4, .int x5, .int 0])
    (rI (-1))
  | _ => no
def bX11_feed_1 (J : JT) : List Value → Sem
  | [.ref x0, .int x1, .int x2, .int x3, .int x4, .int x5, .int x6] =>
    br ((20 : Int32) ≤ x6)
    (gI 11 20 x0 fun v1 =>
    rI v1)
    (br ((4 : Int32) ≤ x6)
    (br ((8 : Int32) ≤ x6)
    (br ((12 : Int32) ≤ x6)
    (br ((16 : Int32) ≤ x6)
    (gR 11 19 x0 fun r2 =>
    gI 11 20 x0 fun v3 =>
    nz 4 <|
    sB r2 v3 ((x5 >>> ((24 - (8 * (x6 - x6 / 4 * 4))) &&& 31)).toInt8.toInt32) <|
    gI 11 20 x0 fun v4 =>
    pI 11 20 x0 (v4 + 1) <|
    J 1 [.ref x0, .int x1, .int x2, .int x3, .int x4, .int x5, .int (x6 + 1)])
    (gR 11 19 x0 fun r5 =>
    gI 11 20 x0 fun v6 =>
    nz 4 <|
    sB r5 v6 ((x4 >>> ((24 - (8 * (x6 - x6 / 4 * 4))) &&& 31)).toInt8.toInt32) <|
    gI 11 20 x0 fun v7 =>
    pI 11 20 x0 (v7 + 1) <|
    J 1 [.ref x0, .int x1, .int x2, .int x3, .int x4, .int x5, .int (x6 + 1)]))
    (gR 11 19 x0 fun r8 =>
    gI 11 20 x0 fun v9 =>
    nz 4 <|
    sB r8 v9 ((x3 >>> ((24 - (8 * (x6 - x6 / 4 * 4))) &&& 31)).toInt8.toInt32) <|
    gI 11 20 x0 fun v10 =>
    pI 11 20 x0 (v10 + 1) <|
    J 1 [.ref x0, .int x1, .int x2, .int x3, .int x4, .int x5, .int (x6 + 1)]))
    (gR 11 19 x0 fun r11 =>
    gI 11 20 x0 fun v12 =>
    nz 4 <|
    sB r11 v12 ((x2 >>> ((24 - (8 * (x6 - x6 / 4 * 4))) &&& 31)).toInt8.toInt32) <|
    gI 11 20 x0 fun v13 =>
    pI 11 20 x0 (v13 + 1) <|
    J 1 [.ref x0, .int x1, .int x2, .int x3, .int x4, .int x5, .int (x6 + 1)]))
    (gR 11 19 x0 fun r14 =>
    gI 11 20 x0 fun v15 =>
    nz 4 <|
    sB r14 v15 ((x1 >>> ((24 - (8 * (x6 - x6 / 4 * 4))) &&& 31)).toInt8.toInt32) <|
    gI 11 20 x0 fun v16 =>
    pI 11 20 x0 (v16 + 1) <|
    J 1 [.ref x0, .int x1, .int x2, .int x3, .int x4, .int x5, .int (x6 + 1)]))
  | _ => no
def bX11_feed (J : JT) : JT := fun L a => match L with
  | 0 => bX11_feed_0 J a
  | 1 => bX11_feed_1 J a
  | _ => no
def SX11_feed : ST := mk 8 bX11_feed
def lX11_feed (L : Nat) (a : List Value) : Nat × Nat × Nat × List (Nat × Value) × List Value := match L with
  | 0 => (0, 0, 0, lv_args 0 a, [])
  | 1 => (0, 0, 23, List.zip [0, 1, 2, 3, 4, 5, 6] a, [])
  | _ => (0, 0, 0, [], [])
theorem pX11_feed_0 {Γ : CT} (hC : Ctx Γ "SpiritWallModel" cX11_feed 8 (some .int) rmX11_feed) (hnt : NT Γ) (J : JT) (hJ : ∀ L a, Cor Γ 8 (lX11_feed L a).1 (lX11_feed L a).2.1 (lX11_feed L a).2.2.1 (lX11_feed L a).2.2.2.1 (lX11_feed L a).2.2.2.2 (J L a)) (a : List Value) : Cor Γ 8 0 0 0 (lv_args 0 a) [] (bX11_feed_0 J a) := by
  unfold bX11_feed_0
  split
  · rename_i x0 x1 x2 x3 x4 x5
    refine c_sub [0, 1, 2, 3, 4, 5] rfl (loc' := [(0, .ref x0), (1, .int x1), (2, .int x2), (3, .int x3), (4, .int x4), (5, .int x5)]) ?_
    refine q_aload_n hC 0 dX11_feed_0 rfl rfl ?_
    refine q_iconst hC dX11_feed_1 rfl ?_
    refine q_putI hC (by decide) (by decide) rfl rfl w_833 dX11_feed_2 ?_
    refine q_aload_n hC 0 dX11_feed_5 rfl rfl ?_
    refine q_getI hC (by decide) (by decide) rfl w_1173 dX11_feed_6 (fun v1 => ?_)
    refine q_bipush hC (v := 20) dX11_feed_9 rfl ?_
    refine q_iadd hC dX11_feed_11 ?_
    refine q_sipush hC (v := 900) dX11_feed_12 rfl ?_
    refine q_ic_le hC 20 dX11_feed_15 rfl ?_ ?_
    · refine q_iconst hC dX11_feed_20 rfl ?_
      refine q_istoreA hC (loc' := [(6, .int 0), (0, .ref x0), (1, .int x1), (2, .int x2), (3, .int x3), (4, .int x4), (5, .int x5)]) dX11_feed_21 (Nat.le_of_ble_eq_true rfl) rfl ?_
      exact c_sub [1, 2, 3, 4, 5, 6, 0] rfl (hJ 1 [.ref x0, .int x1, .int x2, .int x3, .int x4, .int x5, .int 0])
    · refine q_iconst hC dX11_feed_18 rfl ?_
      exact q_iret hC dX11_feed_19 (Nat.le_of_ble_eq_true rfl) (Nat.le_of_ble_eq_true rfl)
  · exact c_no
theorem pX11_feed_1 {Γ : CT} (hC : Ctx Γ "SpiritWallModel" cX11_feed 8 (some .int) rmX11_feed) (hnt : NT Γ) (J : JT) (hJ : ∀ L a, Cor Γ 8 (lX11_feed L a).1 (lX11_feed L a).2.1 (lX11_feed L a).2.2.1 (lX11_feed L a).2.2.2.1 (lX11_feed L a).2.2.2.2 (J L a)) (a : List Value) : Cor Γ 8 0 0 23 (List.zip [0, 1, 2, 3, 4, 5, 6] a) [] (bX11_feed_1 J a) := by
  unfold bX11_feed_1
  split
  · rename_i x0 x1 x2 x3 x4 x5 x6
    refine c_sub [0, 1, 2, 3, 4, 5, 6] rfl (loc' := [(0, .ref x0), (1, .int x1), (2, .int x2), (3, .int x3), (4, .int x4), (5, .int x5), (6, .int x6)]) ?_
    refine q_iload hC 6 dX11_feed_23 rfl ?_
    refine q_bipush hC (v := 20) dX11_feed_25 rfl ?_
    refine q_ic_ge hC 117 dX11_feed_27 rfl ?_ ?_
    · refine q_aload_n hC 0 dX11_feed_117 rfl rfl ?_
      refine q_getI hC (by decide) (by decide) rfl w_1173 dX11_feed_118 (fun v1 => ?_)
      exact q_iret hC dX11_feed_121 (Nat.le_of_ble_eq_true rfl) (Nat.le_of_ble_eq_true rfl)
    · refine q_iload hC 6 dX11_feed_30 rfl ?_
      refine q_iconst hC dX11_feed_32 rfl ?_
      refine q_ic_ge hC 40 dX11_feed_33 rfl ?_ ?_
      · refine q_iload hC 6 dX11_feed_40 rfl ?_
        refine q_bipush hC (v := 8) dX11_feed_42 rfl ?_
        refine q_ic_ge hC 51 dX11_feed_44 rfl ?_ ?_
        · refine q_iload hC 6 dX11_feed_51 rfl ?_
          refine q_bipush hC (v := 12) dX11_feed_53 rfl ?_
          refine q_ic_ge hC 62 dX11_feed_55 rfl ?_ ?_
          · refine q_iload hC 6 dX11_feed_62 rfl ?_
            refine q_bipush hC (v := 16) dX11_feed_64 rfl ?_
            refine q_ic_ge hC 74 dX11_feed_66 rfl ?_ ?_
            · refine q_iload hC 5 dX11_feed_74 rfl ?_
              refine q_istoreA hC (loc' := [(7, .int x5), (0, .ref x0), (1, .int x1), (2, .int x2), (3, .int x3), (4, .int x4), (5, .int x5), (6, .int x6)]) dX11_feed_76 (Nat.le_of_ble_eq_true rfl) rfl ?_
              refine q_aload_n hC 1 dX11_feed_78 rfl rfl ?_
              refine q_getR hC (by decide) (by decide) rfl w_823 dX11_feed_79 (fun r2 => ?_)
              refine q_aload_n hC 1 dX11_feed_82 rfl rfl ?_
              refine q_getI hC (by decide) (by decide) rfl w_1173 dX11_feed_83 (fun v3 => ?_)
              refine q_iload hC 0 dX11_feed_86 rfl ?_
              refine q_bipush hC (v := 24) dX11_feed_88 rfl ?_
              refine q_bipush hC (v := 8) dX11_feed_90 rfl ?_
              refine q_iload hC 7 dX11_feed_92 rfl ?_
              refine q_iconst hC dX11_feed_94 rfl ?_
              refine q_irem hC dX11_feed_95 ?_
              refine q_imul hC dX11_feed_96 ?_
              refine q_isub hC dX11_feed_97 ?_
              refine q_ishr hC dX11_feed_98 ?_
              refine q_i2b hC dX11_feed_99 ?_
              refine q_bast hC dX11_feed_100 ?_
              refine q_aload_n hC 1 dX11_feed_101 rfl rfl ?_
              refine q_aload_n hC 1 dX11_feed_102 rfl rfl ?_
              refine q_getI hC (by decide) (by decide) rfl w_1173 dX11_feed_103 (fun v4 => ?_)
              refine q_iconst hC dX11_feed_106 rfl ?_
              refine q_iadd hC dX11_feed_107 ?_
              refine q_putI hC (by decide) (by decide) rfl rfl w_1173 dX11_feed_108 ?_
              refine q_iincA hC (loc' := [(6, .int (x6 + 1)), (7, .int x5), (0, .ref x0), (1, .int x1), (2, .int x2), (3, .int x3), (4, .int x4), (5, .int x5)]) 7 1 dX11_feed_111 rfl rfl (Nat.le_of_ble_eq_true rfl) rfl ?_
              refine q_goto hC 23 dX11_feed_114 rfl ?_
              exact c_sub [2, 3, 4, 5, 6, 7, 0] rfl (hJ 1 [.ref x0, .int x1, .int x2, .int x3, .int x4, .int x5, .int (x6 + 1)])
            · refine q_iload hC 4 dX11_feed_69 rfl ?_
              refine q_goto hC 76 dX11_feed_71 rfl ?_
              refine q_istoreA hC (loc' := [(7, .int x4), (0, .ref x0), (1, .int x1), (2, .int x2), (3, .int x3), (4, .int x4), (5, .int x5), (6, .int x6)]) dX11_feed_76 (Nat.le_of_ble_eq_true rfl) rfl ?_
              refine q_aload_n hC 1 dX11_feed_78 rfl rfl ?_
              refine q_getR hC (by decide) (by decide) rfl w_823 dX11_feed_79 (fun r5 => ?_)
              refine q_aload_n hC 1 dX11_feed_82 rfl rfl ?_
              refine q_getI hC (by decide) (by decide) rfl w_1173 dX11_feed_83 (fun v6 => ?_)
              refine q_iload hC 0 dX11_feed_86 rfl ?_
              refine q_bipush hC (v := 24) dX11_feed_88 rfl ?_
              refine q_bipush hC (v := 8) dX11_feed_90 rfl ?_
              refine q_iload hC 7 dX11_feed_92 rfl ?_
              refine q_iconst hC dX11_feed_94 rfl ?_
              refine q_irem hC dX11_feed_95 ?_
              refine q_imul hC dX11_feed_96 ?_
              refine q_isub hC dX11_feed_97 ?_
              refine q_ishr hC dX11_feed_98 ?_
              refine q_i2b hC dX11_feed_99 ?_
              refine q_bast hC dX11_feed_100 ?_
              refine q_aload_n hC 1 dX11_feed_101 rfl rfl ?_
              refine q_aload_n hC 1 dX11_feed_102 rfl rfl ?_
              refine q_getI hC (by decide) (by decide) rfl w_1173 dX11_feed_103 (fun v7 => ?_)
              refine q_iconst hC dX11_feed_106 rfl ?_
              refine q_iadd hC dX11_feed_107 ?_
              refine q_putI hC (by decide) (by decide) rfl rfl w_1173 dX11_feed_108 ?_
              refine q_iincA hC (loc' := [(6, .int (x6 + 1)), (7, .int x4), (0, .ref x0), (1, .int x1), (2, .int x2), (3, .int x3), (4, .int x4), (5, .int x5)]) 7 1 dX11_feed_111 rfl rfl (Nat.le_of_ble_eq_true rfl) rfl ?_
              refine q_goto hC 23 dX11_feed_114 rfl ?_
              exact c_sub [2, 3, 4, 5, 6, 7, 0] rfl (hJ 1 [.ref x0, .int x1, .int x2, .int x3, .int x4, .int x5, .int (x6 + 1)])
          · refine q_iload_n hC 3 dX11_feed_58 rfl rfl ?_
            refine q_goto hC 76 dX11_feed_59 rfl ?_
            refine q_istoreA hC (loc' := [(7, .int x3), (0, .ref x0), (1, .int x1), (2, .int x2), (3, .int x3), (4, .int x4), (5, .int x5), (6, .int x6)]) dX11_feed_76 (Nat.le_of_ble_eq_true rfl) rfl ?_
            refine q_aload_n hC 1 dX11_feed_78 rfl rfl ?_
            refine q_getR hC (by decide) (by decide) rfl w_823 dX11_feed_79 (fun r8 => ?_)
            refine q_aload_n hC 1 dX11_feed_82 rfl rfl ?_
            refine q_getI hC (by decide) (by decide) rfl w_1173 dX11_feed_83 (fun v9 => ?_)
            refine q_iload hC 0 dX11_feed_86 rfl ?_
            refine q_bipush hC (v := 24) dX11_feed_88 rfl ?_
            refine q_bipush hC (v := 8) dX11_feed_90 rfl ?_
            refine q_iload hC 7 dX11_feed_92 rfl ?_
            refine q_iconst hC dX11_feed_94 rfl ?_
            refine q_irem hC dX11_feed_95 ?_
            refine q_imul hC dX11_feed_96 ?_
            refine q_isub hC dX11_feed_97 ?_
            refine q_ishr hC dX11_feed_98 ?_
            refine q_i2b hC dX11_feed_99 ?_
            refine q_bast hC dX11_feed_100 ?_
            refine q_aload_n hC 1 dX11_feed_101 rfl rfl ?_
            refine q_aload_n hC 1 dX11_feed_102 rfl rfl ?_
            refine q_getI hC (by decide) (by decide) rfl w_1173 dX11_feed_103 (fun v10 => ?_)
            refine q_iconst hC dX11_feed_106 rfl ?_
            refine q_iadd hC dX11_feed_107 ?_
            refine q_putI hC (by decide) (by decide) rfl rfl w_1173 dX11_feed_108 ?_
            refine q_iincA hC (loc' := [(6, .int (x6 + 1)), (7, .int x3), (0, .ref x0), (1, .int x1), (2, .int x2), (3, .int x3), (4, .int x4), (5, .int x5)]) 7 1 dX11_feed_111 rfl rfl (Nat.le_of_ble_eq_true rfl) rfl ?_
            refine q_goto hC 23 dX11_feed_114 rfl ?_
            exact c_sub [2, 3, 4, 5, 6, 7, 0] rfl (hJ 1 [.ref x0, .int x1, .int x2, .int x3, .int x4, .int x5, .int (x6 + 1)])
        · refine q_iload_n hC 2 dX11_feed_47 rfl rfl ?_
          refine q_goto hC 76 dX11_feed_48 rfl ?_
          refine q_istoreA hC (loc' := [(7, .int x2), (0, .ref x0), (1, .int x1), (2, .int x2), (3, .int x3), (4, .int x4), (5, .int x5), (6, .int x6)]) dX11_feed_76 (Nat.le_of_ble_eq_true rfl) rfl ?_
          refine q_aload_n hC 1 dX11_feed_78 rfl rfl ?_
          refine q_getR hC (by decide) (by decide) rfl w_823 dX11_feed_79 (fun r11 => ?_)
          refine q_aload_n hC 1 dX11_feed_82 rfl rfl ?_
          refine q_getI hC (by decide) (by decide) rfl w_1173 dX11_feed_83 (fun v12 => ?_)
          refine q_iload hC 0 dX11_feed_86 rfl ?_
          refine q_bipush hC (v := 24) dX11_feed_88 rfl ?_
          refine q_bipush hC (v := 8) dX11_feed_90 rfl ?_
          refine q_iload hC 7 dX11_feed_92 rfl ?_
          refine q_iconst hC dX11_feed_94 rfl ?_
          refine q_irem hC dX11_feed_95 ?_
          refine q_imul hC dX11_feed_96 ?_
          refine q_isub hC dX11_feed_97 ?_
          refine q_ishr hC dX11_feed_98 ?_
          refine q_i2b hC dX11_feed_99 ?_
          refine q_bast hC dX11_feed_100 ?_
          refine q_aload_n hC 1 dX11_feed_101 rfl rfl ?_
          refine q_aload_n hC 1 dX11_feed_102 rfl rfl ?_
          refine q_getI hC (by decide) (by decide) rfl w_1173 dX11_feed_103 (fun v13 => ?_)
          refine q_iconst hC dX11_feed_106 rfl ?_
          refine q_iadd hC dX11_feed_107 ?_
          refine q_putI hC (by decide) (by decide) rfl rfl w_1173 dX11_feed_108 ?_
          refine q_iincA hC (loc' := [(6, .int (x6 + 1)), (7, .int x2), (0, .ref x0), (1, .int x1), (2, .int x2), (3, .int x3), (4, .int x4), (5, .int x5)]) 7 1 dX11_feed_111 rfl rfl (Nat.le_of_ble_eq_true rfl) rfl ?_
          refine q_goto hC 23 dX11_feed_114 rfl ?_
          exact c_sub [2, 3, 4, 5, 6, 7, 0] rfl (hJ 1 [.ref x0, .int x1, .int x2, .int x3, .int x4, .int x5, .int (x6 + 1)])
      · refine q_iload_n hC 1 dX11_feed_36 rfl rfl ?_
        refine q_goto hC 76 dX11_feed_37 rfl ?_
        refine q_istoreA hC (loc' := [(7, .int x1), (0, .ref x0), (1, .int x1), (2, .int x2), (3, .int x3), (4, .int x4), (5, .int x5), (6, .int x6)]) dX11_feed_76 (Nat.le_of_ble_eq_true rfl) rfl ?_
        refine q_aload_n hC 1 dX11_feed_78 rfl rfl ?_
        refine q_getR hC (by decide) (by decide) rfl w_823 dX11_feed_79 (fun r14 => ?_)
        refine q_aload_n hC 1 dX11_feed_82 rfl rfl ?_
        refine q_getI hC (by decide) (by decide) rfl w_1173 dX11_feed_83 (fun v15 => ?_)
        refine q_iload hC 0 dX11_feed_86 rfl ?_
        refine q_bipush hC (v := 24) dX11_feed_88 rfl ?_
        refine q_bipush hC (v := 8) dX11_feed_90 rfl ?_
        refine q_iload hC 7 dX11_feed_92 rfl ?_
        refine q_iconst hC dX11_feed_94 rfl ?_
        refine q_irem hC dX11_feed_95 ?_
        refine q_imul hC dX11_feed_96 ?_
        refine q_isub hC dX11_feed_97 ?_
        refine q_ishr hC dX11_feed_98 ?_
        refine q_i2b hC dX11_feed_99 ?_
        refine q_bast hC dX11_feed_100 ?_
        refine q_aload_n hC 1 dX11_feed_101 rfl rfl ?_
        refine q_aload_n hC 1 dX11_feed_102 rfl rfl ?_
        refine q_getI hC (by decide) (by decide) rfl w_1173 dX11_feed_103 (fun v16 => ?_)
        refine q_iconst hC dX11_feed_106 rfl ?_
        refine q_iadd hC dX11_feed_107 ?_
        refine q_putI hC (by decide) (by decide) rfl rfl w_1173 dX11_feed_108 ?_
        refine q_iincA hC (loc' := [(6, .int (x6 + 1)), (7, .int x1), (0, .ref x0), (1, .int x1), (2, .int x2), (3, .int x3), (4, .int x4), (5, .int x5)]) 7 1 dX11_feed_111 rfl rfl (Nat.le_of_ble_eq_true rfl) rfl ?_
        refine q_goto hC 23 dX11_feed_114 rfl ?_
        exact c_sub [2, 3, 4, 5, 6, 7, 0] rfl (hJ 1 [.ref x0, .int x1, .int x2, .int x3, .int x4, .int x5, .int (x6 + 1)])
  · exact c_no
theorem sX11_feed : Snd yX11_feed (.code yX11_feed cX11_feed 8 (some .int)) rmX11_feed SX11_feed := by
  refine Snd.of lX11_feed (by decide +kernel) (fun _ => rfl) ?_
  intro Γ hC hnt hnm J hJ L a
  match L with
  | 0 => exact pX11_feed_0 hC hnt J hJ a
  | 1 => exact pX11_feed_1 hC hnt J hJ a
  | L + 2 => exact c_no
/-! SpiritWallModel.truncate(I)Z -/
theorem dX11_truncate_0 : decode cX11_truncate 0 = .ok (.aload_n 0, 1) := by decide +kernel
theorem dX11_truncate_1 : decode cX11_truncate 1 = .ok (.iconst 0, 1) := by decide +kernel
theorem dX11_truncate_2 : decode cX11_truncate 2 = .ok (.putfield 67, 3) := by decide +kernel
theorem dX11_truncate_5 : decode cX11_truncate 5 = .ok (.iload_n 1, 1) := by decide +kernel
theorem dX11_truncate_6 : decode cX11_truncate 6 = .ok (.i2l, 1) := by decide +kernel
theorem dX11_truncate_7 : decode cX11_truncate 7 = .ok (.lconst 0, 1) := by decide +kernel
theorem dX11_truncate_8 : decode cX11_truncate 8 = .ok (.aload_n 0, 1) := by decide +kernel
theorem dX11_truncate_9 : decode cX11_truncate 9 = .ok (.getfield 387, 3) := by decide +kernel
theorem dX11_truncate_12 : decode cX11_truncate 12 = .ok (.i2l, 1) := by decide +kernel
theorem dX11_truncate_13 : decode cX11_truncate 13 = .ok (.invokestatic 89, 3) := by decide +kernel
theorem dX11_truncate_16 : decode cX11_truncate 16 = .ok (.ifCond .ne 5, 3) := by decide +kernel
theorem dX11_truncate_19 : decode cX11_truncate 19 = .ok (.iconst 0, 1) := by decide +kernel
theorem dX11_truncate_20 : decode cX11_truncate 20 = .ok (.ireturn, 1) := by decide +kernel
theorem dX11_truncate_21 : decode cX11_truncate 21 = .ok (.aload_n 0, 1) := by decide +kernel
theorem dX11_truncate_22 : decode cX11_truncate 22 = .ok (.iload_n 1, 1) := by decide +kernel
theorem dX11_truncate_23 : decode cX11_truncate 23 = .ok (.putfield 387, 3) := by decide +kernel
theorem dX11_truncate_26 : decode cX11_truncate 26 = .ok (.iconst 1, 1) := by decide +kernel
theorem dX11_truncate_27 : decode cX11_truncate 27 = .ok (.ireturn, 1) := by decide +kernel
def rmX11_truncate : Room := rmk 7 0 0 175
theorem nX11_truncate : nameOk yX11_truncate 1 = true := by decide +kernel
def bX11_truncate_0 (J : JT) : List Value → Sem
  | [.ref x0, .int x1] =>
    pI 11 0 x0 0 <|
    gI 11 20 x0 fun v1 =>
    cI SX11_isIn [.long (x1.toInt64), .long 0, .long (v1.toInt64)] fun v2 =>
    br (v2 = 0)
    (rZ 0)
    (pI 11 20 x0 x1 <|
    rZ 1)
  | _ => no
def bX11_truncate (J : JT) : JT := fun L a => match L with
  | 0 => bX11_truncate_0 J a
  | _ => no
def SX11_truncate : ST := mk 2 bX11_truncate
def lX11_truncate (L : Nat) (a : List Value) : Nat × Nat × Nat × List (Nat × Value) × List Value := match L with
  | 0 => (0, 0, 0, lv_args 0 a, [])
  | _ => (0, 0, 0, [], [])
theorem pX11_truncate_0 {Γ : CT} (hC : Ctx Γ "SpiritWallModel" cX11_truncate 2 (some .boolean) rmX11_truncate) (hnt : NT Γ) (J : JT) (hJ : ∀ L a, Cor Γ 2 (lX11_truncate L a).1 (lX11_truncate L a).2.1 (lX11_truncate L a).2.2.1 (lX11_truncate L a).2.2.2.1 (lX11_truncate L a).2.2.2.2 (J L a)) (a : List Value) : Cor Γ 2 0 0 0 (lv_args 0 a) [] (bX11_truncate_0 J a) := by
  unfold bX11_truncate_0
  split
  · rename_i x0 x1
    refine c_sub [0, 1] rfl (loc' := [(0, .ref x0), (1, .int x1)]) ?_
    refine q_aload_n hC 0 dX11_truncate_0 rfl rfl ?_
    refine q_iconst hC dX11_truncate_1 rfl ?_
    refine q_putI hC (by decide) (by decide) rfl rfl w_833 dX11_truncate_2 ?_
    refine q_iload_n hC 1 dX11_truncate_5 rfl rfl ?_
    refine q_i2l hC dX11_truncate_6 ?_
    refine q_lconst hC (v := 0) dX11_truncate_7 rfl ?_
    refine q_aload_n hC 0 dX11_truncate_8 rfl rfl ?_
    refine q_getI hC (by decide) (by decide) rfl w_1173 dX11_truncate_9 (fun v1 => ?_)
    refine q_i2l hC dX11_truncate_12 ?_
    refine q_cSI hC hnt (stk := []) (as := [.long (x1.toInt64), .long 0, .long (v1.toInt64)]) sX11_isIn nX11_isIn rfl w_847 w_849 w_830 w_848 (Nat.le_of_ble_eq_true rfl) dX11_truncate_13 rfl (fun v2 => ?_)
    refine q_if_ne hC 21 dX11_truncate_16 rfl ?_ ?_
    · refine q_aload_n hC 0 dX11_truncate_21 rfl rfl ?_
      refine q_iload_n hC 1 dX11_truncate_22 rfl rfl ?_
      refine q_putI hC (by decide) (by decide) rfl rfl w_1173 dX11_truncate_23 ?_
      refine q_iconst hC dX11_truncate_26 rfl ?_
      exact q_zret hC dX11_truncate_27 (Nat.le_of_ble_eq_true rfl) (Nat.le_of_ble_eq_true rfl)
    · refine q_iconst hC dX11_truncate_19 rfl ?_
      exact q_zret hC dX11_truncate_20 (Nat.le_of_ble_eq_true rfl) (Nat.le_of_ble_eq_true rfl)
  · exact c_no
theorem sX11_truncate : Snd yX11_truncate (.code yX11_truncate cX11_truncate 2 (some .boolean)) rmX11_truncate SX11_truncate := by
  refine Snd.of lX11_truncate (by decide +kernel) (fun _ => rfl) ?_
  intro Γ hC hnt hnm J hJ L a
  match L with
  | 0 => exact pX11_truncate_0 hC hnt J hJ a
  | L + 1 => exact c_no
/-! SpiritWallModel.here(I)I -/
theorem dX11_here_0 : decode cX11_here 0 = .ok (.iload_n 1, 1) := by decide +kernel
theorem dX11_here_1 : decode cX11_here 1 = .ok (.aload_n 0, 1) := by decide +kernel
theorem dX11_here_2 : decode cX11_here 2 = .ok (.getfield 390, 3) := by decide +kernel
theorem dX11_here_5 : decode cX11_here 5 = .ok (.if_icmp .ge 16, 3) := by decide +kernel
theorem dX11_here_8 : decode cX11_here 8 = .ok (.aload_n 0, 1) := by decide +kernel
theorem dX11_here_9 : decode cX11_here 9 = .ok (.getfield 53, 3) := by decide +kernel
theorem dX11_here_12 : decode cX11_here 12 = .ok (.iload_n 1, 1) := by decide +kernel
theorem dX11_here_13 : decode cX11_here 13 = .ok (.baload, 1) := by decide +kernel
theorem dX11_here_14 : decode cX11_here 14 = .ok (.sipush 255, 3) := by decide +kernel
theorem dX11_here_17 : decode cX11_here 17 = .ok (.iand, 1) := by decide +kernel
theorem dX11_here_18 : decode cX11_here 18 = .ok (.goto 4, 3) := by decide +kernel
theorem dX11_here_21 : decode cX11_here 21 = .ok (.iconst (-1), 1) := by decide +kernel
theorem dX11_here_22 : decode cX11_here 22 = .ok (.ireturn, 1) := by decide +kernel
def rmX11_here : Room := rmk 6 0 0 150
theorem nX11_here : nameOk yX11_here 1 = true := by decide +kernel
def bX11_here_0 (J : JT) : List Value → Sem
  | [.ref x0, .int x1] =>
    gI 11 21 x0 fun v1 =>
    br (v1 ≤ x1)
    (rI (-1))
    (gR 11 19 x0 fun r2 =>
    aB r2 x1 fun v3 =>
    rI (v3 &&& 255))
  | _ => no
def bX11_here (J : JT) : JT := fun L a => match L with
  | 0 => bX11_here_0 J a
  | _ => no
def SX11_here : ST := mk 2 bX11_here
def lX11_here (L : Nat) (a : List Value) : Nat × Nat × Nat × List (Nat × Value) × List Value := match L with
  | 0 => (0, 0, 0, lv_args 0 a, [])
  | _ => (0, 0, 0, [], [])
theorem pX11_here_0 {Γ : CT} (hC : Ctx Γ "SpiritWallModel" cX11_here 2 (some .int) rmX11_here) (hnt : NT Γ) (J : JT) (hJ : ∀ L a, Cor Γ 2 (lX11_here L a).1 (lX11_here L a).2.1 (lX11_here L a).2.2.1 (lX11_here L a).2.2.2.1 (lX11_here L a).2.2.2.2 (J L a)) (a : List Value) : Cor Γ 2 0 0 0 (lv_args 0 a) [] (bX11_here_0 J a) := by
  unfold bX11_here_0
  split
  · rename_i x0 x1
    refine c_sub [0, 1] rfl (loc' := [(0, .ref x0), (1, .int x1)]) ?_
    refine q_iload_n hC 1 dX11_here_0 rfl rfl ?_
    refine q_aload_n hC 0 dX11_here_1 rfl rfl ?_
    refine q_getI hC (by decide) (by decide) rfl w_1174 dX11_here_2 (fun v1 => ?_)
    refine q_ic_ge hC 21 dX11_here_5 rfl ?_ ?_
    · refine q_iconst hC dX11_here_21 rfl ?_
      exact q_iret hC dX11_here_22 (Nat.le_of_ble_eq_true rfl) (Nat.le_of_ble_eq_true rfl)
    · refine q_aload_n hC 0 dX11_here_8 rfl rfl ?_
      refine q_getR hC (by decide) (by decide) rfl w_823 dX11_here_9 (fun r2 => ?_)
      refine q_iload_n hC 1 dX11_here_12 rfl rfl ?_
      refine q_bald hC dX11_here_13 (fun v3 => ?_)
      refine q_sipush hC (v := 255) dX11_here_14 rfl ?_
      refine q_iand hC dX11_here_17 ?_
      refine q_goto hC 22 dX11_here_18 rfl ?_
      exact q_iret hC dX11_here_22 (Nat.le_of_ble_eq_true rfl) (Nat.le_of_ble_eq_true rfl)
  · exact c_no
theorem sX11_here : Snd yX11_here (.code yX11_here cX11_here 2 (some .int)) rmX11_here SX11_here := by
  refine Snd.of lX11_here (by decide +kernel) (fun _ => rfl) ?_
  intro Γ hC hnt hnm J hJ L a
  match L with
  | 0 => exact pX11_here_0 hC hnt J hJ a
  | L + 1 => exact c_no
/-! SpiritWallModel.isLetter(I)Z -/
theorem dX11_isLetter_0 : decode cX11_isLetter 0 = .ok (.aload_n 0, 1) := by decide +kernel
theorem dX11_isLetter_1 : decode cX11_isLetter 1 = .ok (.iload_n 1, 1) := by decide +kernel
theorem dX11_isLetter_2 : decode cX11_isLetter 2 = .ok (.invokevirtual 393, 3) := by decide +kernel
theorem dX11_isLetter_5 : decode cX11_isLetter 5 = .ok (.i2l, 1) := by decide +kernel
theorem dX11_isLetter_6 : decode cX11_isLetter 6 = .ok (.ldc2_w 396, 3) := by decide +kernel
theorem dX11_isLetter_9 : decode cX11_isLetter 9 = .ok (.ldc2_w 398, 3) := by decide +kernel
theorem dX11_isLetter_12 : decode cX11_isLetter 12 = .ok (.invokestatic 89, 3) := by decide +kernel
theorem dX11_isLetter_15 : decode cX11_isLetter 15 = .ok (.ireturn, 1) := by decide +kernel
def rmX11_isLetter : Room := rmk 7 0 0 175
theorem nX11_isLetter : nameOk yX11_isLetter 1 = true := by decide +kernel
def bX11_isLetter_0 (J : JT) : List Value → Sem
  | [.ref x0, .int x1] =>
    ob 11 x0 (cI SX11_here [.ref x0, .int x1] fun v1 =>
    cI SX11_isIn [.long (v1.toInt64), .long 97, .long 122] fun v2 =>
    rZ v2)
  | _ => no
def bX11_isLetter (J : JT) : JT := fun L a => match L with
  | 0 => bX11_isLetter_0 J a
  | _ => no
def SX11_isLetter : ST := mk 2 bX11_isLetter
def lX11_isLetter (L : Nat) (a : List Value) : Nat × Nat × Nat × List (Nat × Value) × List Value := match L with
  | 0 => (0, 0, 0, lv_args 0 a, [])
  | _ => (0, 0, 0, [], [])
theorem pX11_isLetter_0 {Γ : CT} (hC : Ctx Γ "SpiritWallModel" cX11_isLetter 2 (some .boolean) rmX11_isLetter) (hnt : NT Γ) (J : JT) (hJ : ∀ L a, Cor Γ 2 (lX11_isLetter L a).1 (lX11_isLetter L a).2.1 (lX11_isLetter L a).2.2.1 (lX11_isLetter L a).2.2.2.1 (lX11_isLetter L a).2.2.2.2 (J L a)) (a : List Value) : Cor Γ 2 0 0 0 (lv_args 0 a) [] (bX11_isLetter_0 J a) := by
  unfold bX11_isLetter_0
  split
  · rename_i x0 x1
    refine c_sub [0, 1] rfl (loc' := [(0, .ref x0), (1, .int x1)]) ?_
    refine q_aload_n hC 0 dX11_isLetter_0 rfl rfl ?_
    refine q_iload_n hC 1 dX11_isLetter_1 rfl rfl ?_
    refine q_cVI hC hnt (stk := []) (as := [.int x1]) sX11_here (ci := 11) (by decide) rfl nX11_here rfl w_1175 w_1177 w_1178 w_830 w_1176 (Nat.le_of_ble_eq_true rfl) dX11_isLetter_2 rfl (fun v1 => ?_)
    refine q_i2l hC dX11_isLetter_5 ?_
    refine q_ldc2 hC w_1179 dX11_isLetter_6 ?_
    refine q_ldc2 hC w_1180 dX11_isLetter_9 ?_
    refine q_cSI hC hnt (stk := []) (as := [.long (v1.toInt64), .long 97, .long 122]) sX11_isIn nX11_isIn rfl w_847 w_849 w_830 w_848 (Nat.le_of_ble_eq_true rfl) dX11_isLetter_12 rfl (fun v2 => ?_)
    exact q_zret hC dX11_isLetter_15 (Nat.le_of_ble_eq_true rfl) (Nat.le_of_ble_eq_true rfl)
  · exact c_no
theorem sX11_isLetter : Snd yX11_isLetter (.code yX11_isLetter cX11_isLetter 2 (some .boolean)) rmX11_isLetter SX11_isLetter := by
  refine Snd.of lX11_isLetter (by decide +kernel) (fun _ => rfl) ?_
  intro Γ hC hnt hnm J hJ L a
  match L with
  | 0 => exact pX11_isLetter_0 hC hnt J hJ a
  | L + 1 => exact c_no
