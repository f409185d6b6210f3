/-! SpiritWallModel.sight(II)I -/
theorem dX11_sight_0 : decode cX11_sight 0 = .ok (.aload_n 0, 1) := by decide +kernel
theorem dX11_sight_1 : decode cX11_sight 1 = .ok (.aload_n 0, 1) := by decide +kernel
theorem dX11_sight_2 : decode cX11_sight 2 = .ok (.iload_n 1, 1) := by decide +kernel
theorem dX11_sight_3 : decode cX11_sight 3 = .ok (.invokevirtual 296, 3) := by decide +kernel
theorem dX11_sight_6 : decode cX11_sight 6 = .ok (.invokevirtual 77, 3) := by decide +kernel
theorem dX11_sight_9 : decode cX11_sight 9 = .ok (.ifCond .eq 20, 3) := by decide +kernel
theorem dX11_sight_12 : decode cX11_sight 12 = .ok (.aload_n 0, 1) := by decide +kernel
theorem dX11_sight_13 : decode cX11_sight 13 = .ok (.iload_n 2, 1) := by decide +kernel
theorem dX11_sight_14 : decode cX11_sight 14 = .ok (.i2l, 1) := by decide +kernel
theorem dX11_sight_15 : decode cX11_sight 15 = .ok (.lconst 0, 1) := by decide +kernel
theorem dX11_sight_16 : decode cX11_sight 16 = .ok (.ldc2_w 299, 3) := by decide +kernel
theorem dX11_sight_19 : decode cX11_sight 19 = .ok (.invokestatic 89, 3) := by decide +kernel
theorem dX11_sight_22 : decode cX11_sight 22 = .ok (.iconst 2, 1) := by decide +kernel
theorem dX11_sight_23 : decode cX11_sight 23 = .ok (.invokevirtual 283, 3) := by decide +kernel
theorem dX11_sight_26 : decode cX11_sight 26 = .ok (.ifCond .ne 5, 3) := by decide +kernel
theorem dX11_sight_29 : decode cX11_sight 29 = .ok (.iconst 0, 1) := by decide +kernel
theorem dX11_sight_30 : decode cX11_sight 30 = .ok (.ireturn, 1) := by decide +kernel
theorem dX11_sight_31 : decode cX11_sight 31 = .ok (.aload_n 0, 1) := by decide +kernel
theorem dX11_sight_32 : decode cX11_sight 32 = .ok (.aload_n 0, 1) := by decide +kernel
theorem dX11_sight_33 : decode cX11_sight 33 = .ok (.invokevirtual 164, 3) := by decide +kernel
theorem dX11_sight_36 : decode cX11_sight 36 = .ok (.putfield 161, 3) := by decide +kernel
theorem dX11_sight_39 : decode cX11_sight 39 = .ok (.iload_n 2, 1) := by decide +kernel
theorem dX11_sight_40 : decode cX11_sight 40 = .ok (.tableswitch 67 6 9 #[32, 49, 55, 61], 32) := by decide +kernel
theorem dX11_sight_72 : decode cX11_sight 72 = .ok (.aload_n 0, 1) := by decide +kernel
theorem dX11_sight_73 : decode cX11_sight 73 = .ok (.aload_n 0, 1) := by decide +kernel
theorem dX11_sight_74 : decode cX11_sight 74 = .ok (.iload_n 1, 1) := by decide +kernel
theorem dX11_sight_75 : decode cX11_sight 75 = .ok (.iconst 0, 1) := by decide +kernel
theorem dX11_sight_76 : decode cX11_sight 76 = .ok (.invokevirtual 100, 3) := by decide +kernel
theorem dX11_sight_79 : decode cX11_sight 79 = .ok (.aload_n 0, 1) := by decide +kernel
theorem dX11_sight_80 : decode cX11_sight 80 = .ok (.iload_n 1, 1) := by decide +kernel
theorem dX11_sight_81 : decode cX11_sight 81 = .ok (.iconst 1, 1) := by decide +kernel
theorem dX11_sight_82 : decode cX11_sight 82 = .ok (.invokevirtual 100, 3) := by decide +kernel
theorem dX11_sight_85 : decode cX11_sight 85 = .ok (.invokevirtual 116, 3) := by decide +kernel
theorem dX11_sight_88 : decode cX11_sight 88 = .ok (.ireturn, 1) := by decide +kernel
theorem dX11_sight_89 : decode cX11_sight 89 = .ok (.aload_n 0, 1) := by decide +kernel
theorem dX11_sight_90 : decode cX11_sight 90 = .ok (.iload_n 1, 1) := by decide +kernel
theorem dX11_sight_91 : decode cX11_sight 91 = .ok (.invokevirtual 127, 3) := by decide +kernel
theorem dX11_sight_94 : decode cX11_sight 94 = .ok (.ireturn, 1) := by decide +kernel
theorem dX11_sight_95 : decode cX11_sight 95 = .ok (.aload_n 0, 1) := by decide +kernel
theorem dX11_sight_96 : decode cX11_sight 96 = .ok (.iload_n 1, 1) := by decide +kernel
theorem dX11_sight_97 : decode cX11_sight 97 = .ok (.invokevirtual 130, 3) := by decide +kernel
theorem dX11_sight_100 : decode cX11_sight 100 = .ok (.ireturn, 1) := by decide +kernel
theorem dX11_sight_101 : decode cX11_sight 101 = .ok (.aload_n 0, 1) := by decide +kernel
theorem dX11_sight_102 : decode cX11_sight 102 = .ok (.iload_n 1, 1) := by decide +kernel
theorem dX11_sight_103 : decode cX11_sight 103 = .ok (.invokevirtual 167, 3) := by decide +kernel
theorem dX11_sight_106 : decode cX11_sight 106 = .ok (.ireturn, 1) := by decide +kernel
theorem dX11_sight_107 : decode cX11_sight 107 = .ok (.aload_n 0, 1) := by decide +kernel
theorem dX11_sight_108 : decode cX11_sight 108 = .ok (.iload_n 1, 1) := by decide +kernel
theorem dX11_sight_109 : decode cX11_sight 109 = .ok (.iload_n 2, 1) := by decide +kernel
theorem dX11_sight_110 : decode cX11_sight 110 = .ok (.invokevirtual 100, 3) := by decide +kernel
theorem dX11_sight_113 : decode cX11_sight 113 = .ok (.ireturn, 1) := by decide +kernel
def rmX11_sight : Room := rmk 13 0 0 313
theorem nX11_sight : nameOk yX11_sight 2 = true := by decide +kernel
def bX11_sight_0 (J : JT) : List Value → Sem
  | [.ref x0, .int x1, .int x2] =>
    ob 11 x0 (cI SX11_isSight [.ref x0, .int x1] fun v1 =>
    ob 11 x0 (cI SX11_is [.ref x0, .int v1] fun v2 =>
    br (v2 = 0)
    (rI 0)
    (cI SX11_isIn [.long (x2.toInt64), .long 0, .long 9] fun v3 =>
    ob 11 x0 (cI SX11_may [.ref x0, .int v3, .int 2] fun v4 =>
    br (v4 = 0)
    (rI 0)
    (ob 11 x0 (cI SX11_errorNow [.ref x0] fun v5 =>
    pI 11 10 x0 v5 <|
    sw x2 (6) 4 fun k => match k with
    | 0 => (ob 11 x0 (cI SX11_ofSight [.ref x0, .int x1, .int 0] fun v6 =>
    ob 11 x0 (cI SX11_ofSight [.ref x0, .int x1, .int 1] fun v7 =>
    ob 11 x0 (cI SX11_swingsOf [.ref x0, .int v6, .int v7] fun v8 =>
    rI v8))))
    | 1 => (ob 11 x0 (cI SX11_bendOf [.ref x0, .int x1] fun v9 =>
    rI v9))
    | 2 => (ob 11 x0 (cI SX11_warmthOf [.ref x0, .int x1] fun v10 =>
    rI v10))
    | 3 => (ob 11 x0 (cI SX11_riseOf [.ref x0, .int x1] fun v11 =>
    rI v11))
    | _ => (ob 11 x0 (cI SX11_ofSight [.ref x0, .int x1, .int x2] fun v12 =>
    rI v12))))))))
  | _ => no
def bX11_sight (J : JT) : JT := fun L a => match L with
  | 0 => bX11_sight_0 J a
  | _ => no
def SX11_sight : ST := mk 3 bX11_sight
def lX11_sight (L : Nat) (a : List Value) : Nat × Nat × Nat × List (Nat × Value) × List Value := match L with
  | 0 => (0, 0, 0, lv_args 0 a, [])
  | _ => (0, 0, 0, [], [])
theorem pX11_sight_0 {Γ : CT} (hC : Ctx Γ "SpiritWallModel" cX11_sight 3 (some .int) rmX11_sight) (hnt : NT Γ) (J : JT) (hJ : ∀ L a, Cor Γ 3 (lX11_sight L a).1 (lX11_sight L a).2.1 (lX11_sight L a).2.2.1 (lX11_sight L a).2.2.2.1 (lX11_sight L a).2.2.2.2 (J L a)) (a : List Value) : Cor Γ 3 0 0 0 (lv_args 0 a) [] (bX11_sight_0 J a) := by
  unfold bX11_sight_0
  split
  · rename_i x0 x1 x2
    refine c_sub [0, 1, 2] rfl (loc' := [(0, .ref x0), (1, .int x1), (2, .int x2)]) ?_
    refine q_aload_n hC 0 dX11_sight_0 rfl rfl ?_
    refine q_aload_n hC 0 dX11_sight_1 rfl rfl ?_
    refine q_iload_n hC 1 dX11_sight_2 rfl rfl ?_
    refine q_cVI hC hnt (stk := [.ref x0]) (as := [.int x1]) sX11_isSight (ci := 11) (by decide) rfl nX11_isSight rfl w_1081 w_1083 w_1084 w_830 w_1082 (Nat.le_of_ble_eq_true rfl) dX11_sight_3 rfl (fun v1 => ?_)
    refine q_cVI hC hnt (stk := []) (as := [.int v1]) sX11_is (ci := 11) (by decide) rfl nX11_is rfl w_838 w_840 w_841 w_830 w_839 (Nat.le_of_ble_eq_true rfl) dX11_sight_6 rfl (fun v2 => ?_)
    refine q_if_eq hC 29 dX11_sight_9 rfl ?_ ?_
    · refine q_iconst hC dX11_sight_29 rfl ?_
      exact q_iret hC dX11_sight_30 (Nat.le_of_ble_eq_true rfl) (Nat.le_of_ble_eq_true rfl)
    · refine q_aload_n hC 0 dX11_sight_12 rfl rfl ?_
      refine q_iload_n hC 2 dX11_sight_13 rfl rfl ?_
      refine q_i2l hC dX11_sight_14 ?_
      refine q_lconst hC (v := 0) dX11_sight_15 rfl ?_
      refine q_ldc2 hC w_1085 dX11_sight_16 ?_
      refine q_cSI hC hnt (stk := [.ref x0]) (as := [.long (x2.toInt64), .long 0, .long 9]) sX11_isIn nX11_isIn rfl w_847 w_849 w_830 w_848 (Nat.le_of_ble_eq_true rfl) dX11_sight_19 rfl (fun v3 => ?_)
      refine q_iconst hC dX11_sight_22 rfl ?_
      refine q_cVI hC hnt (stk := []) (as := [.int v3, .int 2]) sX11_may (ci := 11) (by decide) rfl nX11_may rfl w_1065 w_1067 w_1068 w_830 w_1066 (Nat.le_of_ble_eq_true rfl) dX11_sight_23 rfl (fun v4 => ?_)
      refine q_if_ne hC 31 dX11_sight_26 rfl ?_ ?_
      · refine q_aload_n hC 0 dX11_sight_31 rfl rfl ?_
        refine q_aload_n hC 0 dX11_sight_32 rfl rfl ?_
        refine q_cVI hC hnt (stk := [.ref x0]) (as := []) sX11_errorNow (ci := 11) (by decide) rfl nX11_errorNow rfl w_920 w_922 w_923 w_830 w_921 (Nat.le_of_ble_eq_true rfl) dX11_sight_33 rfl (fun v5 => ?_)
        refine q_putI hC (by decide) (by decide) rfl rfl w_919 dX11_sight_36 ?_
        refine q_iload_n hC 2 dX11_sight_39 rfl rfl ?_
        refine q_sw hC (6) 4 (fun k => ([72, 89, 95, 101] : List Nat).getD k 107) dX11_sight_40 rfl rfl (by decide +kernel) rfl ?_
        intro i hi
        match i, hi with
        | 0, _ =>
          refine c_pc (pc' := 72) rfl ?_
          refine q_aload_n hC 0 dX11_sight_72 rfl rfl ?_
          refine q_aload_n hC 0 dX11_sight_73 rfl rfl ?_
          refine q_iload_n hC 1 dX11_sight_74 rfl rfl ?_
          refine q_iconst hC dX11_sight_75 rfl ?_
          refine q_cVI hC hnt (stk := [.ref x0]) (as := [.int x1, .int 0]) sX11_ofSight (ci := 11) (by decide) rfl nX11_ofSight rfl w_858 w_860 w_861 w_830 w_859 (Nat.le_of_ble_eq_true rfl) dX11_sight_76 rfl (fun v6 => ?_)
          refine q_aload_n hC 0 dX11_sight_79 rfl rfl ?_
          refine q_iload_n hC 1 dX11_sight_80 rfl rfl ?_
          refine q_iconst hC dX11_sight_81 rfl ?_
          refine q_cVI hC hnt (stk := [.int v6, .ref x0]) (as := [.int x1, .int 1]) sX11_ofSight (ci := 11) (by decide) rfl nX11_ofSight rfl w_858 w_860 w_861 w_830 w_859 (Nat.le_of_ble_eq_true rfl) dX11_sight_82 rfl (fun v7 => ?_)
          refine q_cVI hC hnt (stk := []) (as := [.int v6, .int v7]) sX11_swingsOf (ci := 11) (by decide) rfl nX11_swingsOf rfl w_871 w_873 w_874 w_830 w_872 (Nat.le_of_ble_eq_true rfl) dX11_sight_85 rfl (fun v8 => ?_)
          exact q_iret hC dX11_sight_88 (Nat.le_of_ble_eq_true rfl) (Nat.le_of_ble_eq_true rfl)
        | 1, _ =>
          refine c_pc (pc' := 89) rfl ?_
          refine q_aload_n hC 0 dX11_sight_89 rfl rfl ?_
          refine q_iload_n hC 1 dX11_sight_90 rfl rfl ?_
          refine q_cVI hC hnt (stk := []) (as := [.int x1]) sX11_bendOf (ci := 11) (by decide) rfl nX11_bendOf rfl w_878 w_880 w_881 w_830 w_879 (Nat.le_of_ble_eq_true rfl) dX11_sight_91 rfl (fun v9 => ?_)
          exact q_iret hC dX11_sight_94 (Nat.le_of_ble_eq_true rfl) (Nat.le_of_ble_eq_true rfl)
        | 2, _ =>
          refine c_pc (pc' := 95) rfl ?_
          refine q_aload_n hC 0 dX11_sight_95 rfl rfl ?_
          refine q_iload_n hC 1 dX11_sight_96 rfl rfl ?_
          refine q_cVI hC hnt (stk := []) (as := [.int x1]) sX11_warmthOf (ci := 11) (by decide) rfl nX11_warmthOf rfl w_882 w_884 w_885 w_830 w_883 (Nat.le_of_ble_eq_true rfl) dX11_sight_97 rfl (fun v10 => ?_)
          exact q_iret hC dX11_sight_100 (Nat.le_of_ble_eq_true rfl) (Nat.le_of_ble_eq_true rfl)
        | 3, _ =>
          refine c_pc (pc' := 101) rfl ?_
          refine q_aload_n hC 0 dX11_sight_101 rfl rfl ?_
          refine q_iload_n hC 1 dX11_sight_102 rfl rfl ?_
          refine q_cVI hC hnt (stk := []) (as := [.int x1]) sX11_riseOf (ci := 11) (by decide) rfl nX11_riseOf rfl w_924 w_926 w_927 w_830 w_925 (Nat.le_of_ble_eq_true rfl) dX11_sight_103 rfl (fun v11 => ?_)
          exact q_iret hC dX11_sight_106 (Nat.le_of_ble_eq_true rfl) (Nat.le_of_ble_eq_true rfl)
        | 4, _ =>
          refine c_pc (pc' := 107) rfl ?_
          refine q_aload_n hC 0 dX11_sight_107 rfl rfl ?_
          refine q_iload_n hC 1 dX11_sight_108 rfl rfl ?_
          refine q_iload_n hC 2 dX11_sight_109 rfl rfl ?_
          refine q_cVI hC hnt (stk := []) (as := [.int x1, .int x2]) sX11_ofSight (ci := 11) (by decide) rfl nX11_ofSight rfl w_858 w_860 w_861 w_830 w_859 (Nat.le_of_ble_eq_true rfl) dX11_sight_110 rfl (fun v12 => ?_)
          exact q_iret hC dX11_sight_113 (Nat.le_of_ble_eq_true rfl) (Nat.le_of_ble_eq_true rfl)
        | k + 5, h => exact absurd h (by omega)
      · refine q_iconst hC dX11_sight_29 rfl ?_
        exact q_iret hC dX11_sight_30 (Nat.le_of_ble_eq_true rfl) (Nat.le_of_ble_eq_true rfl)
  · exact c_no
theorem sX11_sight : Snd yX11_sight (.code yX11_sight cX11_sight 3 (some .int)) rmX11_sight SX11_sight := by
  refine Snd.of lX11_sight (by decide +kernel) (fun _ => rfl) ?_
  intro Γ hC hnt hnm J hJ L a
  match L with
  | 0 => exact pX11_sight_0 hC hnt J hJ a
  | L + 1 => exact c_no
/-! SpiritWallModel.rise(II)I -/
theorem dX11_rise_0 : decode cX11_rise 0 = .ok (.aload_n 0, 1) := by decide +kernel
theorem dX11_rise_1 : decode cX11_rise 1 = .ok (.aload_n 0, 1) := by decide +kernel
theorem dX11_rise_2 : decode cX11_rise 2 = .ok (.iload_n 1, 1) := by decide +kernel
theorem dX11_rise_3 : decode cX11_rise 3 = .ok (.iload_n 2, 1) := by decide +kernel
theorem dX11_rise_4 : decode cX11_rise 4 = .ok (.invokevirtual 277, 3) := by decide +kernel
theorem dX11_rise_7 : decode cX11_rise 7 = .ok (.invokevirtual 77, 3) := by decide +kernel
theorem dX11_rise_10 : decode cX11_rise 10 = .ok (.ifCond .ne 5, 3) := by decide +kernel
theorem dX11_rise_13 : decode cX11_rise 13 = .ok (.iconst 0, 1) := by decide +kernel
theorem dX11_rise_14 : decode cX11_rise 14 = .ok (.ireturn, 1) := by decide +kernel
theorem dX11_rise_15 : decode cX11_rise 15 = .ok (.aload_n 0, 1) := by decide +kernel
theorem dX11_rise_16 : decode cX11_rise 16 = .ok (.invokevirtual 244, 3) := by decide +kernel
theorem dX11_rise_19 : decode cX11_rise 19 = .ok (.aload_n 0, 1) := by decide +kernel
theorem dX11_rise_20 : decode cX11_rise 20 = .ok (.iload_n 1, 1) := by decide +kernel
theorem dX11_rise_21 : decode cX11_rise 21 = .ok (.iload_n 2, 1) := by decide +kernel
theorem dX11_rise_22 : decode cX11_rise 22 = .ok (.invokevirtual 173, 3) := by decide +kernel
theorem dX11_rise_25 : decode cX11_rise 25 = .ok (.ifCond .eq 12, 3) := by decide +kernel
theorem dX11_rise_28 : decode cX11_rise 28 = .ok (.aload_n 0, 1) := by decide +kernel
theorem dX11_rise_29 : decode cX11_rise 29 = .ok (.iload_n 1, 1) := by decide +kernel
theorem dX11_rise_30 : decode cX11_rise 30 = .ok (.iload_n 2, 1) := by decide +kernel
theorem dX11_rise_31 : decode cX11_rise 31 = .ok (.invokevirtual 199, 3) := by decide +kernel
theorem dX11_rise_34 : decode cX11_rise 34 = .ok (.goto 5, 3) := by decide +kernel
theorem dX11_rise_37 : decode cX11_rise 37 = .ok (.ldc 140, 2) := by decide +kernel
theorem dX11_rise_39 : decode cX11_rise 39 = .ok (.ireturn, 1) := by decide +kernel
def rmX11_rise : Room := rmk 15 0 0 357
theorem nX11_rise : nameOk yX11_rise 2 = true := by decide +kernel
def bX11_rise_0 (J : JT) : List Value → Sem
  | [.ref x0, .int x1, .int x2] =>
    ob 11 x0 (cI SX11_areMarks [.ref x0, .int x1, .int x2] fun v1 =>
    ob 11 x0 (cI SX11_is [.ref x0, .int v1] fun v2 =>
    br (v2 = 0)
    (rI 0)
    (ob 11 x0 (cV SX11_reckons [.ref x0] <|
    ob 11 x0 (cI SX11_isEdge [.ref x0, .int x1, .int x2] fun v3 =>
    br (v3 = 0)
    (rI (-10000000))
    (ob 11 x0 (cI SX11_riseFrom [.ref x0, .int x1, .int x2] fun v4 =>
    rI v4)))))))
  | _ => no
def bX11_rise (J : JT) : JT := fun L a => match L with
  | 0 => bX11_rise_0 J a
  | _ => no
def SX11_rise : ST := mk 3 bX11_rise
def lX11_rise (L : Nat) (a : List Value) : Nat × Nat × Nat × List (Nat × Value) × List Value := match L with
  | 0 => (0, 0, 0, lv_args 0 a, [])
  | _ => (0, 0, 0, [], [])
theorem pX11_rise_0 {Γ : CT} (hC : Ctx Γ "SpiritWallModel" cX11_rise 3 (some .int) rmX11_rise) (hnt : NT Γ) (J : JT) (hJ : ∀ L a, Cor Γ 3 (lX11_rise L a).1 (lX11_rise L a).2.1 (lX11_rise L a).2.2.1 (lX11_rise L a).2.2.2.1 (lX11_rise L a).2.2.2.2 (J L a)) (a : List Value) : Cor Γ 3 0 0 0 (lv_args 0 a) [] (bX11_rise_0 J a) := by
  unfold bX11_rise_0
  split
  · rename_i x0 x1 x2
    refine c_sub [0, 1, 2] rfl (loc' := [(0, .ref x0), (1, .int x1), (2, .int x2)]) ?_
    refine q_aload_n hC 0 dX11_rise_0 rfl rfl ?_
    refine q_aload_n hC 0 dX11_rise_1 rfl rfl ?_
    refine q_iload_n hC 1 dX11_rise_2 rfl rfl ?_
    refine q_iload_n hC 2 dX11_rise_3 rfl rfl ?_
    refine q_cVI hC hnt (stk := [.ref x0]) (as := [.int x1, .int x2]) sX11_areMarks (ci := 11) (by decide) rfl nX11_areMarks rfl w_1057 w_1059 w_1060 w_830 w_1058 (Nat.le_of_ble_eq_true rfl) dX11_rise_4 rfl (fun v1 => ?_)
    refine q_cVI hC hnt (stk := []) (as := [.int v1]) sX11_is (ci := 11) (by decide) rfl nX11_is rfl w_838 w_840 w_841 w_830 w_839 (Nat.le_of_ble_eq_true rfl) dX11_rise_7 rfl (fun v2 => ?_)
    refine q_if_ne hC 15 dX11_rise_10 rfl ?_ ?_
    · refine q_aload_n hC 0 dX11_rise_15 rfl rfl ?_
      refine q_cVV hC hnt (stk := []) (as := []) sX11_reckons (ci := 11) (by decide) rfl nX11_reckons rfl w_1016 w_1018 w_1019 w_830 w_1017 (Nat.le_of_ble_eq_true rfl) dX11_rise_16 rfl ?_
      refine q_aload_n hC 0 dX11_rise_19 rfl rfl ?_
      refine q_iload_n hC 1 dX11_rise_20 rfl rfl ?_
      refine q_iload_n hC 2 dX11_rise_21 rfl rfl ?_
      refine q_cVI hC hnt (stk := []) (as := [.int x1, .int x2]) sX11_isEdge (ci := 11) (by decide) rfl nX11_isEdge rfl w_932 w_934 w_935 w_830 w_933 (Nat.le_of_ble_eq_true rfl) dX11_rise_22 rfl (fun v3 => ?_)
      refine q_if_eq hC 37 dX11_rise_25 rfl ?_ ?_
      · refine q_ldc hC w_889 dX11_rise_37 ?_
        exact q_iret hC dX11_rise_39 (Nat.le_of_ble_eq_true rfl) (Nat.le_of_ble_eq_true rfl)
      · refine q_aload_n hC 0 dX11_rise_28 rfl rfl ?_
        refine q_iload_n hC 1 dX11_rise_29 rfl rfl ?_
        refine q_iload_n hC 2 dX11_rise_30 rfl rfl ?_
        refine q_cVI hC hnt (stk := []) (as := [.int x1, .int x2]) sX11_riseFrom (ci := 11) (by decide) rfl nX11_riseFrom rfl w_959 w_961 w_962 w_830 w_960 (Nat.le_of_ble_eq_true rfl) dX11_rise_31 rfl (fun v4 => ?_)
        refine q_goto hC 39 dX11_rise_34 rfl ?_
        exact q_iret hC dX11_rise_39 (Nat.le_of_ble_eq_true rfl) (Nat.le_of_ble_eq_true rfl)
    · refine q_iconst hC dX11_rise_13 rfl ?_
      exact q_iret hC dX11_rise_14 (Nat.le_of_ble_eq_true rfl) (Nat.le_of_ble_eq_true rfl)
  · exact c_no
theorem sX11_rise : Snd yX11_rise (.code yX11_rise cX11_rise 3 (some .int)) rmX11_rise SX11_rise := by
  refine Snd.of lX11_rise (by decide +kernel) (fun _ => rfl) ?_
  intro Γ hC hnt hnm J hJ L a
  match L with
  | 0 => exact pX11_rise_0 hC hnt J hJ a
  | L + 1 => exact c_no
/-! SpiritWallModel.loopsWith(IZ)I -/
theorem dX11_loopsWith_0 : decode cX11_loopsWith 0 = .ok (.iconst 0, 1) := by decide +kernel
theorem dX11_loopsWith_1 : decode cX11_loopsWith 1 = .ok (.istore_n 3, 1) := by decide +kernel
theorem dX11_loopsWith_2 : decode cX11_loopsWith 2 = .ok (.iconst 0, 1) := by decide +kernel
theorem dX11_loopsWith_3 : decode cX11_loopsWith 3 = .ok (.istore 4, 2) := by decide +kernel
theorem dX11_loopsWith_5 : decode cX11_loopsWith 5 = .ok (.iload 4, 2) := by decide +kernel
theorem dX11_loopsWith_7 : decode cX11_loopsWith 7 = .ok (.aload_n 0, 1) := by decide +kernel
theorem dX11_loopsWith_8 : decode cX11_loopsWith 8 = .ok (.invokevirtual 235, 3) := by decide +kernel
theorem dX11_loopsWith_11 : decode cX11_loopsWith 11 = .ok (.if_icmp .ge 36, 3) := by decide +kernel
theorem dX11_loopsWith_14 : decode cX11_loopsWith 14 = .ok (.aload_n 0, 1) := by decide +kernel
theorem dX11_loopsWith_15 : decode cX11_loopsWith 15 = .ok (.iload 4, 2) := by decide +kernel
theorem dX11_loopsWith_17 : decode cX11_loopsWith 17 = .ok (.iload_n 1, 1) := by decide +kernel
theorem dX11_loopsWith_18 : decode cX11_loopsWith 18 = .ok (.invokevirtual 301, 3) := by decide +kernel
theorem dX11_loopsWith_21 : decode cX11_loopsWith 21 = .ok (.ifCond .eq 20, 3) := by decide +kernel
theorem dX11_loopsWith_24 : decode cX11_loopsWith 24 = .ok (.iload_n 2, 1) := by decide +kernel
theorem dX11_loopsWith_25 : decode cX11_loopsWith 25 = .ok (.ifCond .eq 12, 3) := by decide +kernel
theorem dX11_loopsWith_28 : decode cX11_loopsWith 28 = .ok (.aload_n 0, 1) := by decide +kernel
theorem dX11_loopsWith_29 : decode cX11_loopsWith 29 = .ok (.iload 4, 2) := by decide +kernel
theorem dX11_loopsWith_31 : decode cX11_loopsWith 31 = .ok (.invokevirtual 238, 3) := by decide +kernel
theorem dX11_loopsWith_34 : decode cX11_loopsWith 34 = .ok (.ifCond .ne 7, 3) := by decide +kernel
theorem dX11_loopsWith_37 : decode cX11_loopsWith 37 = .ok (.iload_n 3, 1) := by decide +kernel
theorem dX11_loopsWith_38 : decode cX11_loopsWith 38 = .ok (.iconst 1, 1) := by decide +kernel
theorem dX11_loopsWith_39 : decode cX11_loopsWith 39 = .ok (.iadd, 1) := by decide +kernel
theorem dX11_loopsWith_40 : decode cX11_loopsWith 40 = .ok (.istore_n 3, 1) := by decide +kernel
theorem dX11_loopsWith_41 : decode cX11_loopsWith 41 = .ok (.iinc 4 1, 3) := by decide +kernel
theorem dX11_loopsWith_44 : decode cX11_loopsWith 44 = .ok (.goto (-39), 3) := by decide +kernel
theorem dX11_loopsWith_47 : decode cX11_loopsWith 47 = .ok (.iload_n 3, 1) := by decide +kernel
theorem dX11_loopsWith_48 : decode cX11_loopsWith 48 = .ok (.ireturn, 1) := by decide +kernel
def rmX11_loopsWith : Room := rmk 26 0 0 619
theorem nX11_loopsWith : nameOk yX11_loopsWith 2 = true := by decide +kernel
def bX11_loopsWith_0 (J : JT) : List Value → Sem
  | [.ref x0, .int x1, .int x2] =>
    J 1 [.ref x0, .int x1, .int x2, .int 0, .int 0]
  | _ => no
def bX11_loopsWith_1 (J : JT) : List Value → Sem
  | [.ref x0, .int x1, .int x2, .int x3, .int x4] =>
    ob 11 x0 (cI SX11_loops [.ref x0] fun v1 =>
    br (v1 ≤ x4)
    (rI x3)
    (ob 11 x0 (cI SX11_hasEdge [.ref x0, .int x4, .int x1] fun v2 =>
    br (v2 = 0)
    (J 1 [.ref x0, .int x1, .int x2, .int x3, .int (x4 + 1)])
    (br (x2 = 0)
    (lI (x3 + 1) fun y3_3 =>
    J 1 [.ref x0, .int x1, .int x2, .int y3_3, .int (x4 + 1)])
    (ob 11 x0 (cI SX11_closes [.ref x0, .int x4] fun v4 =>
    br (v4 = 0)
    (lI (x3 + 1) fun y3_5 =>
    J 1 [.ref x0, .int x1, .int x2, .int y3_5, .int (x4 + 1)])
    (J 1 [.ref x0, .int x1, .int x2, .int x3, .int (x4 + 1)])))))))
  | _ => no
def bX11_loopsWith (J : JT) : JT := fun L a => match L with
  | 0 => bX11_loopsWith_0 J a
  | 1 => bX11_loopsWith_1 J a
  | _ => no
def SX11_loopsWith : ST := mk 5 bX11_loopsWith
def lX11_loopsWith (L : Nat) (a : List Value) : Nat × Nat × Nat × List (Nat × Value) × List Value := match L with
  | 0 => (0, 0, 0, lv_args 0 a, [])
  | 1 => (0, 0, 5, List.zip [0, 1, 2, 3, 4] a, [])
  | _ => (0, 0, 0, [], [])
theorem pX11_loopsWith_0 {Γ : CT} (hC : Ctx Γ "SpiritWallModel" cX11_loopsWith 5 (some .int) rmX11_loopsWith) (hnt : NT Γ) (J : JT) (hJ : ∀ L a, Cor Γ 5 (lX11_loopsWith L a).1 (lX11_loopsWith L a).2.1 (lX11_loopsWith L a).2.2.1 (lX11_loopsWith L a).2.2.2.1 (lX11_loopsWith L a).2.2.2.2 (J L a)) (a : List Value) : Cor Γ 5 0 0 0 (lv_args 0 a) [] (bX11_loopsWith_0 J a) := by
  unfold bX11_loopsWith_0
  split
  · rename_i x0 x1 x2
    refine c_sub [0, 1, 2] rfl (loc' := [(0, .ref x0), (1, .int x1), (2, .int x2)]) ?_
    refine q_iconst hC dX11_loopsWith_0 rfl ?_
    refine q_istore_nA hC (loc' := [(3, .int 0), (0, .ref x0), (1, .int x1), (2, .int x2)]) dX11_loopsWith_1 rfl (Nat.le_of_ble_eq_true rfl) rfl ?_
    refine q_iconst hC dX11_loopsWith_2 rfl ?_
    refine q_istoreA hC (loc' := [(4, .int 0), (3, .int 0), (0, .ref x0), (1, .int x1), (2, .int x2)]) dX11_loopsWith_3 (Nat.le_of_ble_eq_true rfl) rfl ?_
    exact c_sub [2, 3, 4, 1, 0] rfl (hJ 1 [.ref x0, .int x1, .int x2, .int 0, .int 0])
  · exact c_no
theorem pX11_loopsWith_1 {Γ : CT} (hC : Ctx Γ "SpiritWallModel" cX11_loopsWith 5 (some .int) rmX11_loopsWith) (hnt : NT Γ) (J : JT) (hJ : ∀ L a, Cor Γ 5 (lX11_loopsWith L a).1 (lX11_loopsWith L a).2.1 (lX11_loopsWith L a).2.2.1 (lX11_loopsWith L a).2.2.2.1 (lX11_loopsWith L a).2.2.2.2 (J L a)) (a : List Value) : Cor Γ 5 0 0 5 (List.zip [0, 1, 2, 3, 4] a) [] (bX11_loopsWith_1 J a) := by
  unfold bX11_loopsWith_1
  split
  · rename_i x0 x1 x2 x3 x4
    refine c_sub [0, 1, 2, 3, 4] rfl (loc' := [(0, .ref x0), (1, .int x1), (2, .int x2), (3, .int x3), (4, .int x4)]) ?_
    refine q_iload hC 4 dX11_loopsWith_5 rfl ?_
    refine q_aload_n hC 0 dX11_loopsWith_7 rfl rfl ?_
    refine q_cVI hC hnt (stk := [.int x4]) (as := []) sX11_loops (ci := 11) (by decide) rfl nX11_loops rfl w_1004 w_1006 w_1007 w_830 w_1005 (Nat.le_of_ble_eq_true rfl) dX11_loopsWith_8 rfl (fun v1 => ?_)
    refine q_ic_ge hC 47 dX11_loopsWith_11 rfl ?_ ?_
    · refine q_iload_n hC 3 dX11_loopsWith_47 rfl rfl ?_
      exact q_iret hC dX11_loopsWith_48 (Nat.le_of_ble_eq_true rfl) (Nat.le_of_ble_eq_true rfl)
    · refine q_aload_n hC 0 dX11_loopsWith_14 rfl rfl ?_
      refine q_iload hC 4 dX11_loopsWith_15 rfl ?_
      refine q_iload_n hC 1 dX11_loopsWith_17 rfl rfl ?_
      refine q_cVI hC hnt (stk := []) (as := [.int x4, .int x1]) sX11_hasEdge (ci := 11) (by decide) rfl nX11_hasEdge rfl w_1086 w_1088 w_1089 w_830 w_1087 (Nat.le_of_ble_eq_true rfl) dX11_loopsWith_18 rfl (fun v2 => ?_)
      refine q_if_eq hC 41 dX11_loopsWith_21 rfl ?_ ?_
      · refine q_iincA hC (loc' := [(4, .int (x4 + 1)), (0, .ref x0), (1, .int x1), (2, .int x2), (3, .int x3)]) 4 1 dX11_loopsWith_41 rfl rfl (Nat.le_of_ble_eq_true rfl) rfl ?_
        refine q_goto hC 5 dX11_loopsWith_44 rfl ?_
        exact c_sub [1, 2, 3, 4, 0] rfl (hJ 1 [.ref x0, .int x1, .int x2, .int x3, .int (x4 + 1)])
      · refine q_iload_n hC 2 dX11_loopsWith_24 rfl rfl ?_
        refine q_if_eq hC 37 dX11_loopsWith_25 rfl ?_ ?_
        · refine q_iload_n hC 3 dX11_loopsWith_37 rfl rfl ?_
          refine q_iconst hC dX11_loopsWith_38 rfl ?_
          refine q_iadd hC dX11_loopsWith_39 ?_
          refine q_istore_n hC (fun y3_3 => [(3, .int y3_3), (0, .ref x0), (1, .int x1), (2, .int x2), (4, .int x4)]) dX11_loopsWith_40 rfl (Nat.le_of_ble_eq_true rfl) (fun _ => rfl) (fun y3_3 => ?_)
          refine q_iincA hC (loc' := [(4, .int (x4 + 1)), (3, .int y3_3), (0, .ref x0), (1, .int x1), (2, .int x2)]) 4 1 dX11_loopsWith_41 rfl rfl (Nat.le_of_ble_eq_true rfl) rfl ?_
          refine q_goto hC 5 dX11_loopsWith_44 rfl ?_
          exact c_sub [2, 3, 4, 1, 0] rfl (hJ 1 [.ref x0, .int x1, .int x2, .int y3_3, .int (x4 + 1)])
        · refine q_aload_n hC 0 dX11_loopsWith_28 rfl rfl ?_
          refine q_iload hC 4 dX11_loopsWith_29 rfl ?_
          refine q_cVI hC hnt (stk := []) (as := [.int x4]) sX11_closes (ci := 11) (by decide) rfl nX11_closes rfl w_1008 w_1010 w_1011 w_830 w_1009 (Nat.le_of_ble_eq_true rfl) dX11_loopsWith_31 rfl (fun v4 => ?_)
          refine q_if_ne hC 41 dX11_loopsWith_34 rfl ?_ ?_
          · refine q_iincA hC (loc' := [(4, .int (x4 + 1)), (0, .ref x0), (1, .int x1), (2, .int x2), (3, .int x3)]) 4 1 dX11_loopsWith_41 rfl rfl (Nat.le_of_ble_eq_true rfl) rfl ?_
            refine q_goto hC 5 dX11_loopsWith_44 rfl ?_
            exact c_sub [1, 2, 3, 4, 0] rfl (hJ 1 [.ref x0, .int x1, .int x2, .int x3, .int (x4 + 1)])
          · refine q_iload_n hC 3 dX11_loopsWith_37 rfl rfl ?_
            refine q_iconst hC dX11_loopsWith_38 rfl ?_
            refine q_iadd hC dX11_loopsWith_39 ?_
            refine q_istore_n hC (fun y3_5 => [(3, .int y3_5), (0, .ref x0), (1, .int x1), (2, .int x2), (4, .int x4)]) dX11_loopsWith_40 rfl (Nat.le_of_ble_eq_true rfl) (fun _ => rfl) (fun y3_5 => ?_)
            refine q_iincA hC (loc' := [(4, .int (x4 + 1)), (3, .int y3_5), (0, .ref x0), (1, .int x1), (2, .int x2)]) 4 1 dX11_loopsWith_41 rfl rfl (Nat.le_of_ble_eq_true rfl) rfl ?_
            refine q_goto hC 5 dX11_loopsWith_44 rfl ?_
            exact c_sub [2, 3, 4, 1, 0] rfl (hJ 1 [.ref x0, .int x1, .int x2, .int y3_5, .int (x4 + 1)])
  · exact c_no
theorem sX11_loopsWith : Snd yX11_loopsWith (.code yX11_loopsWith cX11_loopsWith 5 (some .int)) rmX11_loopsWith SX11_loopsWith := by
  refine Snd.of lX11_loopsWith (by decide +kernel) (fun _ => rfl) ?_
  intro Γ hC hnt hnm J hJ L a
  match L with
  | 0 => exact pX11_loopsWith_0 hC hnt J hJ a
  | 1 => exact pX11_loopsWith_1 hC hnt J hJ a
  | L + 2 => exact c_no
/-! SpiritWallModel.spreadOf(I)I -/
theorem dX11_spreadOf_0 : decode cX11_spreadOf 0 = .ok (.iconst 0, 1) := by decide +kernel
theorem dX11_spreadOf_1 : decode cX11_spreadOf 1 = .ok (.istore_n 2, 1) := by decide +kernel
theorem dX11_spreadOf_2 : decode cX11_spreadOf 2 = .ok (.iconst 0, 1) := by decide +kernel
theorem dX11_spreadOf_3 : decode cX11_spreadOf 3 = .ok (.istore_n 3, 1) := by decide +kernel
theorem dX11_spreadOf_4 : decode cX11_spreadOf 4 = .ok (.iconst 0, 1) := by decide +kernel
theorem dX11_spreadOf_5 : decode cX11_spreadOf 5 = .ok (.istore 4, 2) := by decide +kernel
theorem dX11_spreadOf_7 : decode cX11_spreadOf 7 = .ok (.iconst 0, 1) := by decide +kernel
theorem dX11_spreadOf_8 : decode cX11_spreadOf 8 = .ok (.istore 5, 2) := by decide +kernel
theorem dX11_spreadOf_10 : decode cX11_spreadOf 10 = .ok (.iload 5, 2) := by decide +kernel
theorem dX11_spreadOf_12 : decode cX11_spreadOf 12 = .ok (.aload_n 0, 1) := by decide +kernel
theorem dX11_spreadOf_13 : decode cX11_spreadOf 13 = .ok (.invokevirtual 97, 3) := by decide +kernel
theorem dX11_spreadOf_16 : decode cX11_spreadOf 16 = .ok (.if_icmp .ge 95, 3) := by decide +kernel
theorem dX11_spreadOf_19 : decode cX11_spreadOf 19 = .ok (.aload_n 0, 1) := by decide +kernel
theorem dX11_spreadOf_20 : decode cX11_spreadOf 20 = .ok (.iload 5, 2) := by decide +kernel
theorem dX11_spreadOf_22 : decode cX11_spreadOf 22 = .ok (.invokevirtual 141, 3) := by decide +kernel
theorem dX11_spreadOf_25 : decode cX11_spreadOf 25 = .ok (.ifCond .eq 80, 3) := by decide +kernel
theorem dX11_spreadOf_28 : decode cX11_spreadOf 28 = .ok (.aload_n 0, 1) := by decide +kernel
theorem dX11_spreadOf_29 : decode cX11_spreadOf 29 = .ok (.iload 5, 2) := by decide +kernel
theorem dX11_spreadOf_31 : decode cX11_spreadOf 31 = .ok (.invokevirtual 144, 3) := by decide +kernel
theorem dX11_spreadOf_34 : decode cX11_spreadOf 34 = .ok (.iload_n 1, 1) := by decide +kernel
theorem dX11_spreadOf_35 : decode cX11_spreadOf 35 = .ok (.if_icmp .eq 6, 3) := by decide +kernel
theorem dX11_spreadOf_38 : decode cX11_spreadOf 38 = .ok (.goto 67, 3) := by decide +kernel
theorem dX11_spreadOf_41 : decode cX11_spreadOf 41 = .ok (.aload_n 0, 1) := by decide +kernel
theorem dX11_spreadOf_42 : decode cX11_spreadOf 42 = .ok (.iload 5, 2) := by decide +kernel
theorem dX11_spreadOf_44 : decode cX11_spreadOf 44 = .ok (.invokevirtual 147, 3) := by decide +kernel
theorem dX11_spreadOf_47 : decode cX11_spreadOf 47 = .ok (.ifCond .eq 12, 3) := by decide +kernel
theorem dX11_spreadOf_50 : decode cX11_spreadOf 50 = .ok (.aload_n 0, 1) := by decide +kernel
theorem dX11_spreadOf_51 : decode cX11_spreadOf 51 = .ok (.iload 5, 2) := by decide +kernel
theorem dX11_spreadOf_53 : decode cX11_spreadOf 53 = .ok (.invokevirtual 167, 3) := by decide +kernel
theorem dX11_spreadOf_56 : decode cX11_spreadOf 56 = .ok (.goto 10, 3) := by decide +kernel
theorem dX11_spreadOf_59 : decode cX11_spreadOf 59 = .ok (.aload_n 0, 1) := by decide +kernel
theorem dX11_spreadOf_60 : decode cX11_spreadOf 60 = .ok (.iload 5, 2) := by decide +kernel
theorem dX11_spreadOf_62 : decode cX11_spreadOf 62 = .ok (.invokevirtual 167, 3) := by decide +kernel
theorem dX11_spreadOf_65 : decode cX11_spreadOf 65 = .ok (.ineg, 1) := by decide +kernel
theorem dX11_spreadOf_66 : decode cX11_spreadOf 66 = .ok (.istore 6, 2) := by decide +kernel
theorem dX11_spreadOf_68 : decode cX11_spreadOf 68 = .ok (.iload 4, 2) := by decide +kernel
theorem dX11_spreadOf_70 : decode cX11_spreadOf 70 = .ok (.ifCond .eq 12, 3) := by decide +kernel
theorem dX11_spreadOf_73 : decode cX11_spreadOf 73 = .ok (.iload_n 2, 1) := by decide +kernel
theorem dX11_spreadOf_74 : decode cX11_spreadOf 74 = .ok (.iload 6, 2) := by decide +kernel
theorem dX11_spreadOf_76 : decode cX11_spreadOf 76 = .ok (.invokestatic 179, 3) := by decide +kernel
theorem dX11_spreadOf_79 : decode cX11_spreadOf 79 = .ok (.goto 5, 3) := by decide +kernel
theorem dX11_spreadOf_82 : decode cX11_spreadOf 82 = .ok (.iload 6, 2) := by decide +kernel
theorem dX11_spreadOf_84 : decode cX11_spreadOf 84 = .ok (.istore_n 2, 1) := by decide +kernel
theorem dX11_spreadOf_85 : decode cX11_spreadOf 85 = .ok (.iload 4, 2) := by decide +kernel
theorem dX11_spreadOf_87 : decode cX11_spreadOf 87 = .ok (.ifCond .eq 12, 3) := by decide +kernel
theorem dX11_spreadOf_90 : decode cX11_spreadOf 90 = .ok (.iload_n 3, 1) := by decide +kernel
theorem dX11_spreadOf_91 : decode cX11_spreadOf 91 = .ok (.iload 6, 2) := by decide +kernel
theorem dX11_spreadOf_93 : decode cX11_spreadOf 93 = .ok (.invokestatic 176, 3) := by decide +kernel
theorem dX11_spreadOf_96 : decode cX11_spreadOf 96 = .ok (.goto 5, 3) := by decide +kernel
theorem dX11_spreadOf_99 : decode cX11_spreadOf 99 = .ok (.iload 6, 2) := by decide +kernel
theorem dX11_spreadOf_101 : decode cX11_spreadOf 101 = .ok (.istore_n 3, 1) := by decide +kernel
theorem dX11_spreadOf_102 : decode cX11_spreadOf 102 = .ok (.iconst 1, 1) := by decide +kernel
theorem dX11_spreadOf_103 : decode cX11_spreadOf 103 = .ok (.istore 4, 2) := by decide +kernel
theorem dX11_spreadOf_105 : decode cX11_spreadOf 105 = .ok (.iinc 5 1, 3) := by decide +kernel
theorem dX11_spreadOf_108 : decode cX11_spreadOf 108 = .ok (.goto (-98), 3) := by decide +kernel
theorem dX11_spreadOf_111 : decode cX11_spreadOf 111 = .ok (.iload_n 3, 1) := by decide +kernel
theorem dX11_spreadOf_112 : decode cX11_spreadOf 112 = .ok (.iload_n 2, 1) := by decide +kernel
theorem dX11_spreadOf_113 : decode cX11_spreadOf 113 = .ok (.isub, 1) := by decide +kernel
theorem dX11_spreadOf_114 : decode cX11_spreadOf 114 = .ok (.ireturn, 1) := by decide +kernel
def rmX11_spreadOf : Room := rmk 11 0 0 261
theorem nX11_spreadOf : nameOk yX11_spreadOf 1 = true := by decide +kernel
def bX11_spreadOf_0 (J : JT) : List Value → Sem
  | [.ref x0, .int x1] =>
    J 1 [.ref x0, .int x1, .int 0, .int 0, .int 0, .int 0]
  | _ => no
def bX11_spreadOf_1 (J : JT) : List Value → Sem
  | [.ref x0, .int x1, .int x2, .int x3, .int x4, .int x5] =>
    ob 11 x0 (cI SX11_sights [.ref x0] fun v1 =>
    br (v1 ≤ x5)
    (rI (x3 - x2))
    (ob 11 x0 (cI SX11_counts [.ref x0, .int x5] fun v2 =>
    br (v2 = 0)
    (J 1 [.ref x0, .int x1, .int x2, .int x3, .int x4, .int (x5 + 1)])
    (ob 11 x0 (cI SX11_pairOfSight [.ref x0, .int x5] fun v3 =>
    br (v3 = x1)
    (ob 11 x0 (cI SX11_goesUp [.ref x0, .int x5] fun v4 =>
    br (v4 = 0)
    (ob 11 x0 (cI SX11_riseOf [.ref x0, .int x5] fun v5 =>
    lI (-v5) fun y6_6 =>
    br (x4 = 0)
    (br (x4 = 0)
    (J 1 [.ref x0, .int x1, .int y6_6, .int y6_6, .int 1, .int (x5 + 1)])
    (cI SJ9_max_7cf53 [.int x3, .int y6_6] fun v7 =>
    J 1 [.ref x0, .int x1, .int y6_6, .int v7, .int 1, .int (x5 + 1)]))
    (cI SJ9_min_7cf53 [.int x2, .int y6_6] fun v8 =>
    br (x4 = 0)
    (J 1 [.ref x0, .int x1, .int v8, .int y6_6, .int 1, .int (x5 + 1)])
    (cI SJ9_max_7cf53 [.int x3, .int y6_6] fun v9 =>
    J 1 [.ref x0, .int x1, .int v8, .int v9, .int 1, .int (x5 + 1)]))))
    (ob 11 x0 (cI SX11_riseOf [.ref x0, .int x5] fun v10 =>
    br (x4 = 0)
    (br (x4 = 0)
    (J 1 [.ref x0, .int x1, .int v10, .int v10, .int 1, .int (x5 + 1)])
    (cI SJ9_max_7cf53 [.int x3, .int v10] fun v11 =>
    J 1 [.ref x0, .int x1, .int v10, .int v11, .int 1, .int (x5 + 1)]))
    (cI SJ9_min_7cf53 [.int x2, .int v10] fun v12 =>
    br (x4 = 0)
    (J 1 [.ref x0, .int x1, .int v12, .int v10, .int 1, .int (x5 + 1)])
    (cI SJ9_max_7cf53 [.int x3, .int v10] fun v13 =>
    J 1 [.ref x0, .int x1, .int v12, .int v13, .int 1, .int (x5 + 1)]))))))
    (J 1 [.ref x0, .int x1, .int x2, .int x3, .int x4, .int (x5 + 1)]))))))
  | _ => no
def bX11_spreadOf (J : JT) : JT := fun L a => match L with
  | 0 => bX11_spreadOf_0 J a
  | 1 => bX11_spreadOf_1 J a
  | _ => no
def SX11_spreadOf : ST := mk 7 bX11_spreadOf
def lX11_spreadOf (L : Nat) (a : List Value) : Nat × Nat × Nat × List (Nat × Value) × List Value := match L with
  | 0 => (0, 0, 0, lv_args 0 a, [])
  | 1 => (0, 0, 10, List.zip [0, 1, 2, 3, 4, 5] a, [])
  | _ => (0, 0, 0, [], [])
theorem pX11_spreadOf_0 {Γ : CT} (hC : Ctx Γ "SpiritWallModel" cX11_spreadOf 7 (some .int) rmX11_spreadOf) (hnt : NT Γ) (J : JT) (hJ : ∀ L a, Cor Γ 7 (lX11_spreadOf L a).1 (lX11_spreadOf L a).2.1 (lX11_spreadOf L a).2.2.1 (lX11_spreadOf L a).2.2.2.1 (lX11_spreadOf L a).2.2.2.2 (J L a)) (a : List Value) : Cor Γ 7 0 0 0 (lv_args 0 a) [] (bX11_spreadOf_0 J a) := by
  unfold bX11_spreadOf_0
  split
  · rename_i x0 x1
    refine c_sub [0, 1] rfl (loc' := [(0, .ref x0), (1, .int x1)]) ?_
    refine q_iconst hC dX11_spreadOf_0 rfl ?_
    refine q_istore_nA hC (loc' := [(2, .int 0), (0, .ref x0), (1, .int x1)]) dX11_spreadOf_1 rfl (Nat.le_of_ble_eq_true rfl) rfl ?_
    refine q_iconst hC dX11_spreadOf_2 rfl ?_
    refine q_istore_nA hC (loc' := [(3, .int 0), (2, .int 0), (0, .ref x0), (1, .int x1)]) dX11_spreadOf_3 rfl (Nat.le_of_ble_eq_true rfl) rfl ?_
    refine q_iconst hC dX11_spreadOf_4 rfl ?_
    refine q_istoreA hC (loc' := [(4, .int 0), (3, .int 0), (2, .int 0), (0, .ref x0), (1, .int x1)]) dX11_spreadOf_5 (Nat.le_of_ble_eq_true rfl) rfl ?_
    refine q_iconst hC dX11_spreadOf_7 rfl ?_
    refine q_istoreA hC (loc' := [(5, .int 0), (4, .int 0), (3, .int 0), (2, .int 0), (0, .ref x0), (1, .int x1)]) dX11_spreadOf_8 (Nat.le_of_ble_eq_true rfl) rfl ?_
    exact c_sub [4, 5, 3, 2, 1, 0] rfl (hJ 1 [.ref x0, .int x1, .int 0, .int 0, .int 0, .int 0])
  · exact c_no
theorem pX11_spreadOf_1 {Γ : CT} (hC : Ctx Γ "SpiritWallModel" cX11_spreadOf 7 (some .int) rmX11_spreadOf) (hnt : NT Γ) (J : JT) (hJ : ∀ L a, Cor Γ 7 (lX11_spreadOf L a).1 (lX11_spreadOf L a).2.1 (lX11_spreadOf L a).2.2.1 (lX11_spreadOf L a).2.2.2.1 (lX11_spreadOf L a).2.2.2.2 (J L a)) (a : List Value) : Cor Γ 7 0 0 10 (List.zip [0, 1, 2, 3, 4, 5] a) [] (bX11_spreadOf_1 J a) := by
  unfold bX11_spreadOf_1
  split
  · rename_i x0 x1 x2 x3 x4 x5
    refine c_sub [0, 1, 2, 3, 4, 5] rfl (loc' := [(0, .ref x0), (1, .int x1), (2, .int x2), (3, .int x3), (4, .int x4), (5, .int x5)]) ?_
    refine q_iload hC 5 dX11_spreadOf_10 rfl ?_
    refine q_aload_n hC 0 dX11_spreadOf_12 rfl rfl ?_
    refine q_cVI hC hnt (stk := [.int x5]) (as := []) sX11_sights (ci := 11) (by decide) rfl nX11_sights rfl w_854 w_856 w_857 w_830 w_855 (Nat.le_of_ble_eq_true rfl) dX11_spreadOf_13 rfl (fun v1 => ?_)
    refine q_ic_ge hC 111 dX11_spreadOf_16 rfl ?_ ?_
    · refine q_iload_n hC 3 dX11_spreadOf_111 rfl rfl ?_
      refine q_iload_n hC 2 dX11_spreadOf_112 rfl rfl ?_
      refine q_isub hC dX11_spreadOf_113 ?_
      exact q_iret hC dX11_spreadOf_114 (Nat.le_of_ble_eq_true rfl) (Nat.le_of_ble_eq_true rfl)
    · refine q_aload_n hC 0 dX11_spreadOf_19 rfl rfl ?_
      refine q_iload hC 5 dX11_spreadOf_20 rfl ?_
      refine q_cVI hC hnt (stk := []) (as := [.int x5]) sX11_counts (ci := 11) (by decide) rfl nX11_counts rfl w_895 w_897 w_898 w_830 w_896 (Nat.le_of_ble_eq_true rfl) dX11_spreadOf_22 rfl (fun v2 => ?_)
      refine q_if_eq hC 105 dX11_spreadOf_25 rfl ?_ ?_
      · refine q_iincA hC (loc' := [(5, .int (x5 + 1)), (0, .ref x0), (1, .int x1), (2, .int x2), (3, .int x3), (4, .int x4)]) 5 1 dX11_spreadOf_105 rfl rfl (Nat.le_of_ble_eq_true rfl) rfl ?_
        refine q_goto hC 10 dX11_spreadOf_108 rfl ?_
        exact c_sub [1, 2, 3, 4, 5, 0] rfl (hJ 1 [.ref x0, .int x1, .int x2, .int x3, .int x4, .int (x5 + 1)])
      · refine q_aload_n hC 0 dX11_spreadOf_28 rfl rfl ?_
        refine q_iload hC 5 dX11_spreadOf_29 rfl ?_
        refine q_cVI hC hnt (stk := []) (as := [.int x5]) sX11_pairOfSight (ci := 11) (by decide) rfl nX11_pairOfSight rfl w_899 w_901 w_902 w_830 w_900 (Nat.le_of_ble_eq_true rfl) dX11_spreadOf_31 rfl (fun v3 => ?_)
        refine q_iload_n hC 1 dX11_spreadOf_34 rfl rfl ?_
        refine q_ic_eq hC 41 dX11_spreadOf_35 rfl ?_ ?_
        · refine q_aload_n hC 0 dX11_spreadOf_41 rfl rfl ?_
          refine q_iload hC 5 dX11_spreadOf_42 rfl ?_
          refine q_cVI hC hnt (stk := []) (as := [.int x5]) sX11_goesUp (ci := 11) (by decide) rfl nX11_goesUp rfl w_903 w_905 w_906 w_830 w_904 (Nat.le_of_ble_eq_true rfl) dX11_spreadOf_44 rfl (fun v4 => ?_)
          refine q_if_eq hC 59 dX11_spreadOf_47 rfl ?_ ?_
          · refine q_aload_n hC 0 dX11_spreadOf_59 rfl rfl ?_
            refine q_iload hC 5 dX11_spreadOf_60 rfl ?_
            refine q_cVI hC hnt (stk := []) (as := [.int x5]) sX11_riseOf (ci := 11) (by decide) rfl nX11_riseOf rfl w_924 w_926 w_927 w_830 w_925 (Nat.le_of_ble_eq_true rfl) dX11_spreadOf_62 rfl (fun v5 => ?_)
            refine q_ineg hC dX11_spreadOf_65 ?_
            refine q_istore hC (fun y6_6 => [(6, .int y6_6), (0, .ref x0), (1, .int x1), (2, .int x2), (3, .int x3), (4, .int x4), (5, .int x5)]) dX11_spreadOf_66 (Nat.le_of_ble_eq_true rfl) (fun _ => rfl) (fun y6_6 => ?_)
            refine q_iload hC 5 dX11_spreadOf_68 rfl ?_
            refine q_if_eq hC 82 dX11_spreadOf_70 rfl ?_ ?_
            · refine q_iload hC 0 dX11_spreadOf_82 rfl ?_
              refine q_istore_nA hC (loc' := [(2, .int y6_6), (6, .int y6_6), (0, .ref x0), (1, .int x1), (3, .int x3), (4, .int x4), (5, .int x5)]) dX11_spreadOf_84 rfl (Nat.le_of_ble_eq_true rfl) rfl ?_
              refine q_iload hC 5 dX11_spreadOf_85 rfl ?_
              refine q_if_eq hC 99 dX11_spreadOf_87 rfl ?_ ?_
              · refine q_iload hC 1 dX11_spreadOf_99 rfl ?_
                refine q_istore_nA hC (loc' := [(3, .int y6_6), (2, .int y6_6), (6, .int y6_6), (0, .ref x0), (1, .int x1), (4, .int x4), (5, .int x5)]) dX11_spreadOf_101 rfl (Nat.le_of_ble_eq_true rfl) rfl ?_
                refine q_iconst hC dX11_spreadOf_102 rfl ?_
                refine q_istoreA hC (loc' := [(4, .int 1), (3, .int y6_6), (2, .int y6_6), (6, .int y6_6), (0, .ref x0), (1, .int x1), (5, .int x5)]) dX11_spreadOf_103 (Nat.le_of_ble_eq_true rfl) rfl ?_
                refine q_iincA hC (loc' := [(5, .int (x5 + 1)), (4, .int 1), (3, .int y6_6), (2, .int y6_6), (6, .int y6_6), (0, .ref x0), (1, .int x1)]) 6 1 dX11_spreadOf_105 rfl rfl (Nat.le_of_ble_eq_true rfl) rfl ?_
                refine q_goto hC 10 dX11_spreadOf_108 rfl ?_
                exact c_sub [5, 6, 3, 2, 1, 0] rfl (hJ 1 [.ref x0, .int x1, .int y6_6, .int y6_6, .int 1, .int (x5 + 1)])
              · refine q_iload_n hC 4 dX11_spreadOf_90 rfl rfl ?_
                refine q_iload hC 1 dX11_spreadOf_91 rfl ?_
                refine q_cSI hC hnt (stk := []) (as := [.int x3, .int y6_6]) sJ9_max_7cf53 nJ9_max_7cf53 rfl w_936 w_938 w_351 w_937 (Nat.le_of_ble_eq_true rfl) dX11_spreadOf_93 rfl (fun v7 => ?_)
                refine q_goto hC 101 dX11_spreadOf_96 rfl ?_
                refine q_istore_nA hC (loc' := [(3, .int v7), (2, .int y6_6), (6, .int y6_6), (0, .ref x0), (1, .int x1), (4, .int x4), (5, .int x5)]) dX11_spreadOf_101 rfl (Nat.le_of_ble_eq_true rfl) rfl ?_
                refine q_iconst hC dX11_spreadOf_102 rfl ?_
                refine q_istoreA hC (loc' := [(4, .int 1), (3, .int v7), (2, .int y6_6), (6, .int y6_6), (0, .ref x0), (1, .int x1), (5, .int x5)]) dX11_spreadOf_103 (Nat.le_of_ble_eq_true rfl) rfl ?_
                refine q_iincA hC (loc' := [(5, .int (x5 + 1)), (4, .int 1), (3, .int v7), (2, .int y6_6), (6, .int y6_6), (0, .ref x0), (1, .int x1)]) 6 1 dX11_spreadOf_105 rfl rfl (Nat.le_of_ble_eq_true rfl) rfl ?_
                refine q_goto hC 10 dX11_spreadOf_108 rfl ?_
                exact c_sub [5, 6, 3, 2, 1, 0] rfl (hJ 1 [.ref x0, .int x1, .int y6_6, .int v7, .int 1, .int (x5 + 1)])
            · refine q_iload_n hC 3 dX11_spreadOf_73 rfl rfl ?_
              refine q_iload hC 0 dX11_spreadOf_74 rfl ?_
              refine q_cSI hC hnt (stk := []) (as := [.int x2, .int y6_6]) sJ9_min_7cf53 nJ9_min_7cf53 rfl w_939 w_941 w_351 w_940 (Nat.le_of_ble_eq_true rfl) dX11_spreadOf_76 rfl (fun v8 => ?_)
              refine q_goto hC 84 dX11_spreadOf_79 rfl ?_
              refine q_istore_nA hC (loc' := [(2, .int v8), (6, .int y6_6), (0, .ref x0), (1, .int x1), (3, .int x3), (4, .int x4), (5, .int x5)]) dX11_spreadOf_84 rfl (Nat.le_of_ble_eq_true rfl) rfl ?_
              refine q_iload hC 5 dX11_spreadOf_85 rfl ?_
              refine q_if_eq hC 99 dX11_spreadOf_87 rfl ?_ ?_
              · refine q_iload hC 1 dX11_spreadOf_99 rfl ?_
                refine q_istore_nA hC (loc' := [(3, .int y6_6), (2, .int v8), (6, .int y6_6), (0, .ref x0), (1, .int x1), (4, .int x4), (5, .int x5)]) dX11_spreadOf_101 rfl (Nat.le_of_ble_eq_true rfl) rfl ?_
                refine q_iconst hC dX11_spreadOf_102 rfl ?_
                refine q_istoreA hC (loc' := [(4, .int 1), (3, .int y6_6), (2, .int v8), (6, .int y6_6), (0, .ref x0), (1, .int x1), (5, .int x5)]) dX11_spreadOf_103 (Nat.le_of_ble_eq_true rfl) rfl ?_
                refine q_iincA hC (loc' := [(5, .int (x5 + 1)), (4, .int 1), (3, .int y6_6), (2, .int v8), (6, .int y6_6), (0, .ref x0), (1, .int x1)]) 6 1 dX11_spreadOf_105 rfl rfl (Nat.le_of_ble_eq_true rfl) rfl ?_
                refine q_goto hC 10 dX11_spreadOf_108 rfl ?_
                exact c_sub [5, 6, 3, 2, 1, 0] rfl (hJ 1 [.ref x0, .int x1, .int v8, .int y6_6, .int 1, .int (x5 + 1)])
              · refine q_iload_n hC 4 dX11_spreadOf_90 rfl rfl ?_
                refine q_iload hC 1 dX11_spreadOf_91 rfl ?_
                refine q_cSI hC hnt (stk := []) (as := [.int x3, .int y6_6]) sJ9_max_7cf53 nJ9_max_7cf53 rfl w_936 w_938 w_351 w_937 (Nat.le_of_ble_eq_true rfl) dX11_spreadOf_93 rfl (fun v9 => ?_)
                refine q_goto hC 101 dX11_spreadOf_96 rfl ?_
                refine q_istore_nA hC (loc' := [(3, .int v9), (2, .int v8), (6, .int y6_6), (0, .ref x0), (1, .int x1), (4, .int x4), (5, .int x5)]) dX11_spreadOf_101 rfl (Nat.le_of_ble_eq_true rfl) rfl ?_
                refine q_iconst hC dX11_spreadOf_102 rfl ?_
                refine q_istoreA hC (loc' := [(4, .int 1), (3, .int v9), (2, .int v8), (6, .int y6_6), (0, .ref x0), (1, .int x1), (5, .int x5)]) dX11_spreadOf_103 (Nat.le_of_ble_eq_true rfl) rfl ?_
                refine q_iincA hC (loc' := [(5, .int (x5 + 1)), (4, .int 1), (3, .int v9), (2, .int v8), (6, .int y6_6), (0, .ref x0), (1, .int x1)]) 6 1 dX11_spreadOf_105 rfl rfl (Nat.le_of_ble_eq_true rfl) rfl ?_
                refine q_goto hC 10 dX11_spreadOf_108 rfl ?_
                exact c_sub [5, 6, 3, 2, 1, 0] rfl (hJ 1 [.ref x0, .int x1, .int v8, .int v9, .int 1, .int (x5 + 1)])
          · refine q_aload_n hC 0 dX11_spreadOf_50 rfl rfl ?_
            refine q_iload hC 5 dX11_spreadOf_51 rfl ?_
            refine q_cVI hC hnt (stk := []) (as := [.int x5]) sX11_riseOf (ci := 11) (by decide) rfl nX11_riseOf rfl w_924 w_926 w_927 w_830 w_925 (Nat.le_of_ble_eq_true rfl) dX11_spreadOf_53 rfl (fun v10 => ?_)
            refine q_goto hC 66 dX11_spreadOf_56 rfl ?_
            refine q_istoreA hC (loc' := [(6, .int v10), (0, .ref x0), (1, .int x1), (2, .int x2), (3, .int x3), (4, .int x4), (5, .int x5)]) dX11_spreadOf_66 (Nat.le_of_ble_eq_true rfl) rfl ?_
            refine q_iload hC 5 dX11_spreadOf_68 rfl ?_
            refine q_if_eq hC 82 dX11_spreadOf_70 rfl ?_ ?_
            · refine q_iload hC 0 dX11_spreadOf_82 rfl ?_
              refine q_istore_nA hC (loc' := [(2, .int v10), (6, .int v10), (0, .ref x0), (1, .int x1), (3, .int x3), (4, .int x4), (5, .int x5)]) dX11_spreadOf_84 rfl (Nat.le_of_ble_eq_true rfl) rfl ?_
              refine q_iload hC 5 dX11_spreadOf_85 rfl ?_
              refine q_if_eq hC 99 dX11_spreadOf_87 rfl ?_ ?_
              · refine q_iload hC 1 dX11_spreadOf_99 rfl ?_
                refine q_istore_nA hC (loc' := [(3, .int v10), (2, .int v10), (6, .int v10), (0, .ref x0), (1, .int x1), (4, .int x4), (5, .int x5)]) dX11_spreadOf_101 rfl (Nat.le_of_ble_eq_true rfl) rfl ?_
                refine q_iconst hC dX11_spreadOf_102 rfl ?_
                refine q_istoreA hC (loc' := [(4, .int 1), (3, .int v10), (2, .int v10), (6, .int v10), (0, .ref x0), (1, .int x1), (5, .int x5)]) dX11_spreadOf_103 (Nat.le_of_ble_eq_true rfl) rfl ?_
                refine q_iincA hC (loc' := [(5, .int (x5 + 1)), (4, .int 1), (3, .int v10), (2, .int v10), (6, .int v10), (0, .ref x0), (1, .int x1)]) 6 1 dX11_spreadOf_105 rfl rfl (Nat.le_of_ble_eq_true rfl) rfl ?_
                refine q_goto hC 10 dX11_spreadOf_108 rfl ?_
                exact c_sub [5, 6, 3, 2, 1, 0] rfl (hJ 1 [.ref x0, .int x1, .int v10, .int v10, .int 1, .int (x5 + 1)])
              · refine q_iload_n hC 4 dX11_spreadOf_90 rfl rfl ?_
                refine q_iload hC 1 dX11_spreadOf_91 rfl ?_
                refine q_cSI hC hnt (stk := []) (as := [.int x3, .int v10]) sJ9_max_7cf53 nJ9_max_7cf53 rfl w_936 w_938 w_351 w_937 (Nat.le_of_ble_eq_true rfl) dX11_spreadOf_93 rfl (fun v11 => ?_)
                refine q_goto hC 101 dX11_spreadOf_96 rfl ?_
                refine q_istore_nA hC (loc' := [(3, .int v11), (2, .int v10), (6, .int v10), (0, .ref x0), (1, .int x1), (4, .int x4), (5, .int x5)]) dX11_spreadOf_101 rfl (Nat.le_of_ble_eq_true rfl) rfl ?_
                refine q_iconst hC dX11_spreadOf_102 rfl ?_
                refine q_istoreA hC (loc' := [(4, .int 1), (3, .int v11), (2, .int v10), (6, .int v10), (0, .ref x0), (1, .int x1), (5, .int x5)]) dX11_spreadOf_103 (Nat.le_of_ble_eq_true rfl) rfl ?_
                refine q_iincA hC (loc' := [(5, .int (x5 + 1)), (4, .int 1), (3, .int v11), (2, .int v10), (6, .int v10), (0, .ref x0), (1, .int x1)]) 6 1 dX11_spreadOf_105 rfl rfl (Nat.le_of_ble_eq_true rfl) rfl ?_
                refine q_goto hC 10 dX11_spreadOf_108 rfl ?_
                exact c_sub [5, 6, 3, 2, 1, 0] rfl (hJ 1 [.ref x0, .int x1, .int v10, .int v11, .int 1, .int (x5 + 1)])
            · refine q_iload_n hC 3 dX11_spreadOf_73 rfl rfl ?_
              refine q_iload hC 0 dX11_spreadOf_74 rfl ?_
              refine q_cSI hC hnt (stk := []) (as := [.int x2, .int v10]) sJ9_min_7cf53 nJ9_min_7cf53 rfl w_939 w_941 w_351 w_940 (Nat.le_of_ble_eq_true rfl) dX11_spreadOf_76 rfl (fun v12 => ?_)
              refine q_goto hC 84 dX11_spreadOf_79 rfl ?_
              refine q_istore_nA hC (loc' := [(2, .int v12), (6, .int v10), (0, .ref x0), (1, .int x1), (3, .int x3), (4, .int x4), (5, .int x5)]) dX11_spreadOf_84 rfl (Nat.le_of_ble_eq_true rfl) rfl ?_
              refine q_iload hC 5 dX11_spreadOf_85 rfl ?_
              refine q_if_eq hC 99 dX11_spreadOf_87 rfl ?_ ?_
              · refine q_iload hC 1 dX11_spreadOf_99 rfl ?_
                refine q_istore_nA hC (loc' := [(3, .int v10), (2, .int v12), (6, .int v10), (0, .ref x0), (1, .int x1), (4, .int x4), (5, .int x5)]) dX11_spreadOf_101 rfl (Nat.le_of_ble_eq_true rfl) rfl ?_
                refine q_iconst hC dX11_spreadOf_102 rfl ?_
                refine q_istoreA hC (loc' := [(4, .int 1), (3, .int v10), (2, .int v12), (6, .int v10), (0, .ref x0), (1, .int x1), (5, .int x5)]) dX11_spreadOf_103 (Nat.le_of_ble_eq_true rfl) rfl ?_
                refine q_iincA hC (loc' := [(5, .int (x5 + 1)), (4, .int 1), (3, .int v10), (2, .int v12), (6, .int v10), (0, .ref x0), (1, .int x1)]) 6 1 dX11_spreadOf_105 rfl rfl (Nat.le_of_ble_eq_true rfl) rfl ?_
                refine q_goto hC 10 dX11_spreadOf_108 rfl ?_
                exact c_sub [5, 6, 3, 2, 1, 0] rfl (hJ 1 [.ref x0, .int x1, .int v12, .int v10, .int 1, .int (x5 + 1)])
              · refine q_iload_n hC 4 dX11_spreadOf_90 rfl rfl ?_
                refine q_iload hC 1 dX11_spreadOf_91 rfl ?_
                refine q_cSI hC hnt (stk := []) (as := [.int x3, .int v10]) sJ9_max_7cf53 nJ9_max_7cf53 rfl w_936 w_938 w_351 w_937 (Nat.le_of_ble_eq_true rfl) dX11_spreadOf_93 rfl (fun v13 => ?_)
                refine q_goto hC 101 dX11_spreadOf_96 rfl ?_
                refine q_istore_nA hC (loc' := [(3, .int v13), (2, .int v12), (6, .int v10), (0, .ref x0), (1, .int x1), (4, .int x4), (5, .int x5)]) dX11_spreadOf_101 rfl (Nat.le_of_ble_eq_true rfl) rfl ?_
                refine q_iconst hC dX11_spreadOf_102 rfl ?_
                refine q_istoreA hC (loc' := [(4, .int 1), (3, .int v13), (2, .int v12), (6, .int v10), (0, .ref x0), (1, .int x1), (5, .int x5)]) dX11_spreadOf_103 (Nat.le_of_ble_eq_true rfl) rfl ?_
                refine q_iincA hC (loc' := [(5, .int (x5 + 1)), (4, .int 1), (3, .int v13), (2, .int v12), (6, .int v10), (0, .ref x0), (1, .int x1)]) 6 1 dX11_spreadOf_105 rfl rfl (Nat.le_of_ble_eq_true rfl) rfl ?_
                refine q_goto hC 10 dX11_spreadOf_108 rfl ?_
                exact c_sub [5, 6, 3, 2, 1, 0] rfl (hJ 1 [.ref x0, .int x1, .int v12, .int v13, .int 1, .int (x5 + 1)])
        · refine q_goto hC 105 dX11_spreadOf_38 rfl ?_
          refine q_iincA hC (loc' := [(5, .int (x5 + 1)), (0, .ref x0), (1, .int x1), (2, .int x2), (3, .int x3), (4, .int x4)]) 5 1 dX11_spreadOf_105 rfl rfl (Nat.le_of_ble_eq_true rfl) rfl ?_
          refine q_goto hC 10 dX11_spreadOf_108 rfl ?_
          exact c_sub [1, 2, 3, 4, 5, 0] rfl (hJ 1 [.ref x0, .int x1, .int x2, .int x3, .int x4, .int (x5 + 1)])
  · exact c_no
theorem sX11_spreadOf : Snd yX11_spreadOf (.code yX11_spreadOf cX11_spreadOf 7 (some .int)) rmX11_spreadOf SX11_spreadOf := by
  refine Snd.of lX11_spreadOf (by decide +kernel) (fun _ => rfl) ?_
  intro Γ hC hnt hnm J hJ L a
  match L with
  | 0 => exact pX11_spreadOf_0 hC hnt J hJ a
  | 1 => exact pX11_spreadOf_1 hC hnt J hJ a
  | L + 2 => exact c_no
/-! SpiritWallModel.edge(III)I -/
theorem dX11_edge_0 : decode cX11_edge 0 = .ok (.aload_n 0, 1) := by decide +kernel
theorem dX11_edge_1 : decode cX11_edge 1 = .ok (.aload_n 0, 1) := by decide +kernel
theorem dX11_edge_2 : decode cX11_edge 2 = .ok (.iload_n 1, 1) := by decide +kernel
theorem dX11_edge_3 : decode cX11_edge 3 = .ok (.iload_n 2, 1) := by decide +kernel
theorem dX11_edge_4 : decode cX11_edge 4 = .ok (.invokevirtual 277, 3) := by decide +kernel
theorem dX11_edge_7 : decode cX11_edge 7 = .ok (.invokevirtual 77, 3) := by decide +kernel
theorem dX11_edge_10 : decode cX11_edge 10 = .ok (.ifCond .eq 20, 3) := by decide +kernel
theorem dX11_edge_13 : decode cX11_edge 13 = .ok (.aload_n 0, 1) := by decide +kernel
theorem dX11_edge_14 : decode cX11_edge 14 = .ok (.iload_n 3, 1) := by decide +kernel
theorem dX11_edge_15 : decode cX11_edge 15 = .ok (.i2l, 1) := by decide +kernel
theorem dX11_edge_16 : decode cX11_edge 16 = .ok (.lconst 0, 1) := by decide +kernel
theorem dX11_edge_17 : decode cX11_edge 17 = .ok (.ldc2_w 304, 3) := by decide +kernel
theorem dX11_edge_20 : decode cX11_edge 20 = .ok (.invokestatic 89, 3) := by decide +kernel
theorem dX11_edge_23 : decode cX11_edge 23 = .ok (.iconst 2, 1) := by decide +kernel
theorem dX11_edge_24 : decode cX11_edge 24 = .ok (.invokevirtual 283, 3) := by decide +kernel
theorem dX11_edge_27 : decode cX11_edge 27 = .ok (.ifCond .ne 5, 3) := by decide +kernel
theorem dX11_edge_30 : decode cX11_edge 30 = .ok (.iconst 0, 1) := by decide +kernel
theorem dX11_edge_31 : decode cX11_edge 31 = .ok (.ireturn, 1) := by decide +kernel
theorem dX11_edge_32 : decode cX11_edge 32 = .ok (.aload_n 0, 1) := by decide +kernel
theorem dX11_edge_33 : decode cX11_edge 33 = .ok (.invokevirtual 244, 3) := by decide +kernel
theorem dX11_edge_36 : decode cX11_edge 36 = .ok (.aload_n 0, 1) := by decide +kernel
theorem dX11_edge_37 : decode cX11_edge 37 = .ok (.iload_n 1, 1) := by decide +kernel
theorem dX11_edge_38 : decode cX11_edge 38 = .ok (.iload_n 2, 1) := by decide +kernel
theorem dX11_edge_39 : decode cX11_edge 39 = .ok (.invokevirtual 173, 3) := by decide +kernel
theorem dX11_edge_42 : decode cX11_edge 42 = .ok (.ifCond .ne 5, 3) := by decide +kernel
theorem dX11_edge_45 : decode cX11_edge 45 = .ok (.iconst (-1), 1) := by decide +kernel
theorem dX11_edge_46 : decode cX11_edge 46 = .ok (.ireturn, 1) := by decide +kernel
theorem dX11_edge_47 : decode cX11_edge 47 = .ok (.iload_n 1, 1) := by decide +kernel
theorem dX11_edge_48 : decode cX11_edge 48 = .ok (.iload_n 2, 1) := by decide +kernel
theorem dX11_edge_49 : decode cX11_edge 49 = .ok (.invokestatic 133, 3) := by decide +kernel
theorem dX11_edge_52 : decode cX11_edge 52 = .ok (.istore 4, 2) := by decide +kernel
theorem dX11_edge_54 : decode cX11_edge 54 = .ok (.iload_n 3, 1) := by decide +kernel
theorem dX11_edge_55 : decode cX11_edge 55 = .ok (.tableswitch 92 0 5 #[37, 45, 52, 60, 76, 84], 37) := by decide +kernel
theorem dX11_edge_92 : decode cX11_edge 92 = .ok (.aload_n 0, 1) := by decide +kernel
theorem dX11_edge_93 : decode cX11_edge 93 = .ok (.getfield 31, 3) := by decide +kernel
theorem dX11_edge_96 : decode cX11_edge 96 = .ok (.iload 4, 2) := by decide +kernel
theorem dX11_edge_98 : decode cX11_edge 98 = .ok (.iaload, 1) := by decide +kernel
theorem dX11_edge_99 : decode cX11_edge 99 = .ok (.ireturn, 1) := by decide +kernel
theorem dX11_edge_100 : decode cX11_edge 100 = .ok (.aload_n 0, 1) := by decide +kernel
theorem dX11_edge_101 : decode cX11_edge 101 = .ok (.iload_n 1, 1) := by decide +kernel
theorem dX11_edge_102 : decode cX11_edge 102 = .ok (.iload_n 2, 1) := by decide +kernel
theorem dX11_edge_103 : decode cX11_edge 103 = .ok (.invokevirtual 113, 3) := by decide +kernel
theorem dX11_edge_106 : decode cX11_edge 106 = .ok (.ireturn, 1) := by decide +kernel
theorem dX11_edge_107 : decode cX11_edge 107 = .ok (.aload_n 0, 1) := by decide +kernel
theorem dX11_edge_108 : decode cX11_edge 108 = .ok (.getfield 37, 3) := by decide +kernel
theorem dX11_edge_111 : decode cX11_edge 111 = .ok (.iload 4, 2) := by decide +kernel
theorem dX11_edge_113 : decode cX11_edge 113 = .ok (.iaload, 1) := by decide +kernel
theorem dX11_edge_114 : decode cX11_edge 114 = .ok (.ireturn, 1) := by decide +kernel
theorem dX11_edge_115 : decode cX11_edge 115 = .ok (.aload_n 0, 1) := by decide +kernel
theorem dX11_edge_116 : decode cX11_edge 116 = .ok (.getfield 40, 3) := by decide +kernel
theorem dX11_edge_119 : decode cX11_edge 119 = .ok (.iload 4, 2) := by decide +kernel
theorem dX11_edge_121 : decode cX11_edge 121 = .ok (.baload, 1) := by decide +kernel
theorem dX11_edge_122 : decode cX11_edge 122 = .ok (.ifCond .eq 7, 3) := by decide +kernel
theorem dX11_edge_125 : decode cX11_edge 125 = .ok (.iconst 1, 1) := by decide +kernel
theorem dX11_edge_126 : decode cX11_edge 126 = .ok (.goto 4, 3) := by decide +kernel
theorem dX11_edge_129 : decode cX11_edge 129 = .ok (.iconst 0, 1) := by decide +kernel
theorem dX11_edge_130 : decode cX11_edge 130 = .ok (.ireturn, 1) := by decide +kernel
theorem dX11_edge_131 : decode cX11_edge 131 = .ok (.aload_n 0, 1) := by decide +kernel
theorem dX11_edge_132 : decode cX11_edge 132 = .ok (.iload 4, 2) := by decide +kernel
theorem dX11_edge_134 : decode cX11_edge 134 = .ok (.iconst 0, 1) := by decide +kernel
theorem dX11_edge_135 : decode cX11_edge 135 = .ok (.invokevirtual 306, 3) := by decide +kernel
theorem dX11_edge_138 : decode cX11_edge 138 = .ok (.ireturn, 1) := by decide +kernel
theorem dX11_edge_139 : decode cX11_edge 139 = .ok (.aload_n 0, 1) := by decide +kernel
theorem dX11_edge_140 : decode cX11_edge 140 = .ok (.iload 4, 2) := by decide +kernel
theorem dX11_edge_142 : decode cX11_edge 142 = .ok (.iconst 1, 1) := by decide +kernel
theorem dX11_edge_143 : decode cX11_edge 143 = .ok (.invokevirtual 306, 3) := by decide +kernel
theorem dX11_edge_146 : decode cX11_edge 146 = .ok (.ireturn, 1) := by decide +kernel
theorem dX11_edge_147 : decode cX11_edge 147 = .ok (.aload_n 0, 1) := by decide +kernel
theorem dX11_edge_148 : decode cX11_edge 148 = .ok (.iload 4, 2) := by decide +kernel
theorem dX11_edge_150 : decode cX11_edge 150 = .ok (.invokevirtual 310, 3) := by decide +kernel
theorem dX11_edge_153 : decode cX11_edge 153 = .ok (.ireturn, 1) := by decide +kernel
def rmX11_edge : Room := rmk 27 0 0 643
theorem nX11_edge : nameOk yX11_edge 3 = true := by decide +kernel
def bX11_edge_0 (J : JT) : List Value → Sem
  | [.ref x0, .int x1, .int x2, .int x3] =>
    ob 11 x0 (cI SX11_areMarks [.ref x0, .int x1, .int x2] fun v1 =>
    ob 11 x0 (cI SX11_is [.ref x0, .int v1] fun v2 =>
    br (v2 = 0)
    (rI 0)
    (cI SX11_isIn [.long (x3.toInt64), .long 0, .long 6] fun v3 =>
    ob 11 x0 (cI SX11_may [.ref x0, .int v3, .int 2] fun v4 =>
    br (v4 = 0)
    (rI 0)
    (ob 11 x0 (cV SX11_reckons [.ref x0] <|
    ob 11 x0 (cI SX11_isEdge [.ref x0, .int x1, .int x2] fun v5 =>
    br (v5 = 0)
    (rI (-1))
    (cI SX11_pairOf [.int x1, .int x2] fun v6 =>
    sw x3 (0) 6 fun k => match k with
    | 0 => (gR 11 11 x0 fun r7 =>
    aI r7 v6 fun v8 =>
    rI v8)
    | 1 => (ob 11 x0 (cI SX11_distance [.ref x0, .int x1, .int x2] fun v9 =>
    rI v9))
    | 2 => (gR 11 13 x0 fun r10 =>
    aI r10 v6 fun v11 =>
    rI v11)
    | 3 => (gR 11 14 x0 fun r12 =>
    aB r12 v6 fun v13 =>
    br (v13 = 0)
    (rI 0)
    (rI 1))
    | 4 => (ob 11 x0 (cI SX11_loopsWith [.ref x0, .int v6, .int 0] fun v14 =>
    rI v14))
    | 5 => (ob 11 x0 (cI SX11_loopsWith [.ref x0, .int v6, .int 1] fun v15 =>
    rI v15))
    | _ => (ob 11 x0 (cI SX11_spreadOf [.ref x0, .int v6] fun v16 =>
    rI v16))))))))))
  | _ => no
def bX11_edge (J : JT) : JT := fun L a => match L with
  | 0 => bX11_edge_0 J a
  | _ => no
def SX11_edge : ST := mk 5 bX11_edge
def lX11_edge (L : Nat) (a : List Value) : Nat × Nat × Nat × List (Nat × Value) × List Value := match L with
  | 0 => (0, 0, 0, lv_args 0 a, [])
  | _ => (0, 0, 0, [], [])
theorem pX11_edge_0 {Γ : CT} (hC : Ctx Γ "SpiritWallModel" cX11_edge 5 (some .int) rmX11_edge) (hnt : NT Γ) (J : JT) (hJ : ∀ L a, Cor Γ 5 (lX11_edge L a).1 (lX11_edge L a).2.1 (lX11_edge L a).2.2.1 (lX11_edge L a).2.2.2.1 (lX11_edge L a).2.2.2.2 (J L a)) (a : List Value) : Cor Γ 5 0 0 0 (lv_args 0 a) [] (bX11_edge_0 J a) := by
  unfold bX11_edge_0
  split
  · rename_i x0 x1 x2 x3
    refine c_sub [0, 1, 2, 3] rfl (loc' := [(0, .ref x0), (1, .int x1), (2, .int x2), (3, .int x3)]) ?_
    refine q_aload_n hC 0 dX11_edge_0 rfl rfl ?_
    refine q_aload_n hC 0 dX11_edge_1 rfl rfl ?_
    refine q_iload_n hC 1 dX11_edge_2 rfl rfl ?_
    refine q_iload_n hC 2 dX11_edge_3 rfl rfl ?_
    refine q_cVI hC hnt (stk := [.ref x0]) (as := [.int x1, .int x2]) sX11_areMarks (ci := 11) (by decide) rfl nX11_areMarks rfl w_1057 w_1059 w_1060 w_830 w_1058 (Nat.le_of_ble_eq_true rfl) dX11_edge_4 rfl (fun v1 => ?_)
    refine q_cVI hC hnt (stk := []) (as := [.int v1]) sX11_is (ci := 11) (by decide) rfl nX11_is rfl w_838 w_840 w_841 w_830 w_839 (Nat.le_of_ble_eq_true rfl) dX11_edge_7 rfl (fun v2 => ?_)
    refine q_if_eq hC 30 dX11_edge_10 rfl ?_ ?_
    · refine q_iconst hC dX11_edge_30 rfl ?_
      exact q_iret hC dX11_edge_31 (Nat.le_of_ble_eq_true rfl) (Nat.le_of_ble_eq_true rfl)
    · refine q_aload_n hC 0 dX11_edge_13 rfl rfl ?_
      refine q_iload_n hC 3 dX11_edge_14 rfl rfl ?_
      refine q_i2l hC dX11_edge_15 ?_
      refine q_lconst hC (v := 0) dX11_edge_16 rfl ?_
      refine q_ldc2 hC w_1090 dX11_edge_17 ?_
      refine q_cSI hC hnt (stk := [.ref x0]) (as := [.long (x3.toInt64), .long 0, .long 6]) sX11_isIn nX11_isIn rfl w_847 w_849 w_830 w_848 (Nat.le_of_ble_eq_true rfl) dX11_edge_20 rfl (fun v3 => ?_)
      refine q_iconst hC dX11_edge_23 rfl ?_
      refine q_cVI hC hnt (stk := []) (as := [.int v3, .int 2]) sX11_may (ci := 11) (by decide) rfl nX11_may rfl w_1065 w_1067 w_1068 w_830 w_1066 (Nat.le_of_ble_eq_true rfl) dX11_edge_24 rfl (fun v4 => ?_)
      refine q_if_ne hC 32 dX11_edge_27 rfl ?_ ?_
      · refine q_aload_n hC 0 dX11_edge_32 rfl rfl ?_
        refine q_cVV hC hnt (stk := []) (as := []) sX11_reckons (ci := 11) (by decide) rfl nX11_reckons rfl w_1016 w_1018 w_1019 w_830 w_1017 (Nat.le_of_ble_eq_true rfl) dX11_edge_33 rfl ?_
        refine q_aload_n hC 0 dX11_edge_36 rfl rfl ?_
        refine q_iload_n hC 1 dX11_edge_37 rfl rfl ?_
        refine q_iload_n hC 2 dX11_edge_38 rfl rfl ?_
        refine q_cVI hC hnt (stk := []) (as := [.int x1, .int x2]) sX11_isEdge (ci := 11) (by decide) rfl nX11_isEdge rfl w_932 w_934 w_935 w_830 w_933 (Nat.le_of_ble_eq_true rfl) dX11_edge_39 rfl (fun v5 => ?_)
        refine q_if_ne hC 47 dX11_edge_42 rfl ?_ ?_
        · refine q_iload_n hC 1 dX11_edge_47 rfl rfl ?_
          refine q_iload_n hC 2 dX11_edge_48 rfl rfl ?_
          refine q_cSI hC hnt (stk := []) (as := [.int x1, .int x2]) sX11_pairOf nX11_pairOf rfl w_886 w_888 w_830 w_887 (Nat.le_of_ble_eq_true rfl) dX11_edge_49 rfl (fun v6 => ?_)
          refine q_istoreA hC (loc' := [(4, .int v6), (0, .ref x0), (1, .int x1), (2, .int x2), (3, .int x3)]) dX11_edge_52 (Nat.le_of_ble_eq_true rfl) rfl ?_
          refine q_iload_n hC 4 dX11_edge_54 rfl rfl ?_
          refine q_sw hC (0) 6 (fun k => ([92, 100, 107, 115, 131, 139] : List Nat).getD k 147) dX11_edge_55 rfl rfl (by decide +kernel) rfl ?_
          intro i hi
          match i, hi with
          | 0, _ =>
            refine c_pc (pc' := 92) rfl ?_
            refine q_aload_n hC 1 dX11_edge_92 rfl rfl ?_
            refine q_getR hC (by decide) (by decide) rfl w_816 dX11_edge_93 (fun r7 => ?_)
            refine q_iload hC 0 dX11_edge_96 rfl ?_
            refine q_iald hC dX11_edge_98 (fun v8 => ?_)
            exact q_iret hC dX11_edge_99 (Nat.le_of_ble_eq_true rfl) (Nat.le_of_ble_eq_true rfl)
          | 1, _ =>
            refine c_pc (pc' := 100) rfl ?_
            refine q_aload_n hC 1 dX11_edge_100 rfl rfl ?_
            refine q_iload_n hC 2 dX11_edge_101 rfl rfl ?_
            refine q_iload_n hC 3 dX11_edge_102 rfl rfl ?_
            refine q_cVI hC hnt (stk := []) (as := [.int x1, .int x2]) sX11_distance (ci := 11) (by decide) rfl nX11_distance rfl w_867 w_869 w_870 w_830 w_868 (Nat.le_of_ble_eq_true rfl) dX11_edge_103 rfl (fun v9 => ?_)
            exact q_iret hC dX11_edge_106 (Nat.le_of_ble_eq_true rfl) (Nat.le_of_ble_eq_true rfl)
          | 2, _ =>
            refine c_pc (pc' := 107) rfl ?_
            refine q_aload_n hC 1 dX11_edge_107 rfl rfl ?_
            refine q_getR hC (by decide) (by decide) rfl w_818 dX11_edge_108 (fun r10 => ?_)
            refine q_iload hC 0 dX11_edge_111 rfl ?_
            refine q_iald hC dX11_edge_113 (fun v11 => ?_)
            exact q_iret hC dX11_edge_114 (Nat.le_of_ble_eq_true rfl) (Nat.le_of_ble_eq_true rfl)
          | 3, _ =>
            refine c_pc (pc' := 115) rfl ?_
            refine q_aload_n hC 1 dX11_edge_115 rfl rfl ?_
            refine q_getR hC (by decide) (by decide) rfl w_819 dX11_edge_116 (fun r12 => ?_)
            refine q_iload hC 0 dX11_edge_119 rfl ?_
            refine q_bald hC dX11_edge_121 (fun v13 => ?_)
            refine q_if_eq hC 129 dX11_edge_122 rfl ?_ ?_
            · refine q_iconst hC dX11_edge_129 rfl ?_
              exact q_iret hC dX11_edge_130 (Nat.le_of_ble_eq_true rfl) (Nat.le_of_ble_eq_true rfl)
            · refine q_iconst hC dX11_edge_125 rfl ?_
              refine q_goto hC 130 dX11_edge_126 rfl ?_
              exact q_iret hC dX11_edge_130 (Nat.le_of_ble_eq_true rfl) (Nat.le_of_ble_eq_true rfl)
          | 4, _ =>
            refine c_pc (pc' := 131) rfl ?_
            refine q_aload_n hC 1 dX11_edge_131 rfl rfl ?_
            refine q_iload hC 0 dX11_edge_132 rfl ?_
            refine q_iconst hC dX11_edge_134 rfl ?_
            refine q_cVI hC hnt (stk := []) (as := [.int v6, .int 0]) sX11_loopsWith (ci := 11) (by decide) rfl nX11_loopsWith rfl w_1091 w_1093 w_1094 w_830 w_1092 (Nat.le_of_ble_eq_true rfl) dX11_edge_135 rfl (fun v14 => ?_)
            exact q_iret hC dX11_edge_138 (Nat.le_of_ble_eq_true rfl) (Nat.le_of_ble_eq_true rfl)
          | 5, _ =>
            refine c_pc (pc' := 139) rfl ?_
            refine q_aload_n hC 1 dX11_edge_139 rfl rfl ?_
            refine q_iload hC 0 dX11_edge_140 rfl ?_
            refine q_iconst hC dX11_edge_142 rfl ?_
            refine q_cVI hC hnt (stk := []) (as := [.int v6, .int 1]) sX11_loopsWith (ci := 11) (by decide) rfl nX11_loopsWith rfl w_1091 w_1093 w_1094 w_830 w_1092 (Nat.le_of_ble_eq_true rfl) dX11_edge_143 rfl (fun v15 => ?_)
            exact q_iret hC dX11_edge_146 (Nat.le_of_ble_eq_true rfl) (Nat.le_of_ble_eq_true rfl)
          | 6, _ =>
            refine c_pc (pc' := 147) rfl ?_
            refine q_aload_n hC 1 dX11_edge_147 rfl rfl ?_
            refine q_iload hC 0 dX11_edge_148 rfl ?_
            refine q_cVI hC hnt (stk := []) (as := [.int v6]) sX11_spreadOf (ci := 11) (by decide) rfl nX11_spreadOf rfl w_1095 w_1097 w_1098 w_830 w_1096 (Nat.le_of_ble_eq_true rfl) dX11_edge_150 rfl (fun v16 => ?_)
            exact q_iret hC dX11_edge_153 (Nat.le_of_ble_eq_true rfl) (Nat.le_of_ble_eq_true rfl)
          | k + 7, h => exact absurd h (by omega)
        · refine q_iconst hC dX11_edge_45 rfl ?_
          exact q_iret hC dX11_edge_46 (Nat.le_of_ble_eq_true rfl) (Nat.le_of_ble_eq_true rfl)
      · refine q_iconst hC dX11_edge_30 rfl ?_
        exact q_iret hC dX11_edge_31 (Nat.le_of_ble_eq_true rfl) (Nat.le_of_ble_eq_true rfl)
  · exact c_no
theorem sX11_edge : Snd yX11_edge (.code yX11_edge cX11_edge 5 (some .int)) rmX11_edge SX11_edge := by
  refine Snd.of lX11_edge (by decide +kernel) (fun _ => rfl) ?_
  intro Γ hC hnt hnm J hJ L a
  match L with
  | 0 => exact pX11_edge_0 hC hnt J hJ a
  | L + 1 => exact c_no
/-! SpiritWallModel.along(II)I -/
theorem dX11_along_0 : decode cX11_along 0 = .ok (.aload_n 0, 1) := by decide +kernel
theorem dX11_along_1 : decode cX11_along 1 = .ok (.aload_n 0, 1) := by decide +kernel
theorem dX11_along_2 : decode cX11_along 2 = .ok (.iload_n 1, 1) := by decide +kernel
theorem dX11_along_3 : decode cX11_along 3 = .ok (.iload_n 2, 1) := by decide +kernel
theorem dX11_along_4 : decode cX11_along 4 = .ok (.invokevirtual 277, 3) := by decide +kernel
theorem dX11_along_7 : decode cX11_along 7 = .ok (.invokevirtual 77, 3) := by decide +kernel
theorem dX11_along_10 : decode cX11_along 10 = .ok (.ifCond .ne 5, 3) := by decide +kernel
theorem dX11_along_13 : decode cX11_along 13 = .ok (.iconst 0, 1) := by decide +kernel
theorem dX11_along_14 : decode cX11_along 14 = .ok (.ireturn, 1) := by decide +kernel
theorem dX11_along_15 : decode cX11_along 15 = .ok (.aload_n 0, 1) := by decide +kernel
theorem dX11_along_16 : decode cX11_along 16 = .ok (.invokevirtual 244, 3) := by decide +kernel
theorem dX11_along_19 : decode cX11_along 19 = .ok (.aload_n 0, 1) := by decide +kernel
theorem dX11_along_20 : decode cX11_along 20 = .ok (.iload_n 1, 1) := by decide +kernel
theorem dX11_along_21 : decode cX11_along 21 = .ok (.iload_n 2, 1) := by decide +kernel
theorem dX11_along_22 : decode cX11_along 22 = .ok (.invokevirtual 211, 3) := by decide +kernel
theorem dX11_along_25 : decode cX11_along 25 = .ok (.ifCond .eq 10, 3) := by decide +kernel
theorem dX11_along_28 : decode cX11_along 28 = .ok (.aload_n 0, 1) := by decide +kernel
theorem dX11_along_29 : decode cX11_along 29 = .ok (.invokevirtual 218, 3) := by decide +kernel
theorem dX11_along_32 : decode cX11_along 32 = .ok (.goto 5, 3) := by decide +kernel
theorem dX11_along_35 : decode cX11_along 35 = .ok (.ldc 140, 2) := by decide +kernel
theorem dX11_along_37 : decode cX11_along 37 = .ok (.ireturn, 1) := by decide +kernel
def rmX11_along : Room := rmk 22 0 0 529
theorem nX11_along : nameOk yX11_along 2 = true := by decide +kernel
def bX11_along_0 (J : JT) : List Value → Sem
  | [.ref x0, .int x1, .int x2] =>
    ob 11 x0 (cI SX11_areMarks [.ref x0, .int x1, .int x2] fun v1 =>
    ob 11 x0 (cI SX11_is [.ref x0, .int v1] fun v2 =>
    br (v2 = 0)
    (rI 0)
    (ob 11 x0 (cV SX11_reckons [.ref x0] <|
    ob 11 x0 (cI SX11_findsWay [.ref x0, .int x1, .int x2] fun v3 =>
    br (v3 = 0)
    (rI (-10000000))
    (ob 11 x0 (cI SX11_sumOfWay [.ref x0] fun v4 =>
    rI v4)))))))
  | _ => no
def bX11_along (J : JT) : JT := fun L a => match L with
  | 0 => bX11_along_0 J a
  | _ => no
def SX11_along : ST := mk 3 bX11_along
def lX11_along (L : Nat) (a : List Value) : Nat × Nat × Nat × List (Nat × Value) × List Value := match L with
  | 0 => (0, 0, 0, lv_args 0 a, [])
  | _ => (0, 0, 0, [], [])
theorem pX11_along_0 {Γ : CT} (hC : Ctx Γ "SpiritWallModel" cX11_along 3 (some .int) rmX11_along) (hnt : NT Γ) (J : JT) (hJ : ∀ L a, Cor Γ 3 (lX11_along L a).1 (lX11_along L a).2.1 (lX11_along L a).2.2.1 (lX11_along L a).2.2.2.1 (lX11_along L a).2.2.2.2 (J L a)) (a : List Value) : Cor Γ 3 0 0 0 (lv_args 0 a) [] (bX11_along_0 J a) := by
  unfold bX11_along_0
  split
  · rename_i x0 x1 x2
    refine c_sub [0, 1, 2] rfl (loc' := [(0, .ref x0), (1, .int x1), (2, .int x2)]) ?_
    refine q_aload_n hC 0 dX11_along_0 rfl rfl ?_
    refine q_aload_n hC 0 dX11_along_1 rfl rfl ?_
    refine q_iload_n hC 1 dX11_along_2 rfl rfl ?_
    refine q_iload_n hC 2 dX11_along_3 rfl rfl ?_
    refine q_cVI hC hnt (stk := [.ref x0]) (as := [.int x1, .int x2]) sX11_areMarks (ci := 11) (by decide) rfl nX11_areMarks rfl w_1057 w_1059 w_1060 w_830 w_1058 (Nat.le_of_ble_eq_true rfl) dX11_along_4 rfl (fun v1 => ?_)
    refine q_cVI hC hnt (stk := []) (as := [.int v1]) sX11_is (ci := 11) (by decide) rfl nX11_is rfl w_838 w_840 w_841 w_830 w_839 (Nat.le_of_ble_eq_true rfl) dX11_along_7 rfl (fun v2 => ?_)
    refine q_if_ne hC 15 dX11_along_10 rfl ?_ ?_
    · refine q_aload_n hC 0 dX11_along_15 rfl rfl ?_
      refine q_cVV hC hnt (stk := []) (as := []) sX11_reckons (ci := 11) (by decide) rfl nX11_reckons rfl w_1016 w_1018 w_1019 w_830 w_1017 (Nat.le_of_ble_eq_true rfl) dX11_along_16 rfl ?_
      refine q_aload_n hC 0 dX11_along_19 rfl rfl ?_
      refine q_iload_n hC 1 dX11_along_20 rfl rfl ?_
      refine q_iload_n hC 2 dX11_along_21 rfl rfl ?_
      refine q_cVI hC hnt (stk := []) (as := [.int x1, .int x2]) sX11_findsWay (ci := 11) (by decide) rfl nX11_findsWay rfl w_975 w_977 w_978 w_830 w_976 (Nat.le_of_ble_eq_true rfl) dX11_along_22 rfl (fun v3 => ?_)
      refine q_if_eq hC 35 dX11_along_25 rfl ?_ ?_
      · refine q_ldc hC w_889 dX11_along_35 ?_
        exact q_iret hC dX11_along_37 (Nat.le_of_ble_eq_true rfl) (Nat.le_of_ble_eq_true rfl)
      · refine q_aload_n hC 0 dX11_along_28 rfl rfl ?_
        refine q_cVI hC hnt (stk := []) (as := []) sX11_sumOfWay (ci := 11) (by decide) rfl nX11_sumOfWay rfl w_983 w_985 w_986 w_830 w_984 (Nat.le_of_ble_eq_true rfl) dX11_along_29 rfl (fun v4 => ?_)
        refine q_goto hC 37 dX11_along_32 rfl ?_
        exact q_iret hC dX11_along_37 (Nat.le_of_ble_eq_true rfl) (Nat.le_of_ble_eq_true rfl)
    · refine q_iconst hC dX11_along_13 rfl ?_
      exact q_iret hC dX11_along_14 (Nat.le_of_ble_eq_true rfl) (Nat.le_of_ble_eq_true rfl)
  · exact c_no
theorem sX11_along : Snd yX11_along (.code yX11_along cX11_along 3 (some .int)) rmX11_along SX11_along := by
  refine Snd.of lX11_along (by decide +kernel) (fun _ => rfl) ?_
  intro Γ hC hnt hnm J hJ L a
  match L with
  | 0 => exact pX11_along_0 hC hnt J hJ a
  | L + 1 => exact c_no
/-! SpiritWallModel.isLoop(I)Z -/
theorem dX11_isLoop_0 : decode cX11_isLoop 0 = .ok (.aload_n 0, 1) := by decide +kernel
theorem dX11_isLoop_1 : decode cX11_isLoop 1 = .ok (.invokevirtual 244, 3) := by decide +kernel
theorem dX11_isLoop_4 : decode cX11_isLoop 4 = .ok (.iload_n 1, 1) := by decide +kernel
theorem dX11_isLoop_5 : decode cX11_isLoop 5 = .ok (.i2l, 1) := by decide +kernel
theorem dX11_isLoop_6 : decode cX11_isLoop 6 = .ok (.lconst 0, 1) := by decide +kernel
theorem dX11_isLoop_7 : decode cX11_isLoop 7 = .ok (.aload_n 0, 1) := by decide +kernel
theorem dX11_isLoop_8 : decode cX11_isLoop 8 = .ok (.invokevirtual 235, 3) := by decide +kernel
theorem dX11_isLoop_11 : decode cX11_isLoop 11 = .ok (.iconst 1, 1) := by decide +kernel
theorem dX11_isLoop_12 : decode cX11_isLoop 12 = .ok (.isub, 1) := by decide +kernel
theorem dX11_isLoop_13 : decode cX11_isLoop 13 = .ok (.i2l, 1) := by decide +kernel
theorem dX11_isLoop_14 : decode cX11_isLoop 14 = .ok (.invokestatic 89, 3) := by decide +kernel
theorem dX11_isLoop_17 : decode cX11_isLoop 17 = .ok (.ireturn, 1) := by decide +kernel
def rmX11_isLoop : Room := rmk 15 0 0 357
theorem nX11_isLoop : nameOk yX11_isLoop 1 = true := by decide +kernel
def bX11_isLoop_0 (J : JT) : List Value → Sem
  | [.ref x0, .int x1] =>
    ob 11 x0 (cV SX11_reckons [.ref x0] <|
    ob 11 x0 (cI SX11_loops [.ref x0] fun v1 =>
    cI SX11_isIn [.long (x1.toInt64), .long 0, .long ((v1 - 1).toInt64)] fun v2 =>
    rZ v2))
  | _ => no
def bX11_isLoop (J : JT) : JT := fun L a => match L with
  | 0 => bX11_isLoop_0 J a
  | _ => no
def SX11_isLoop : ST := mk 2 bX11_isLoop
def lX11_isLoop (L : Nat) (a : List Value) : Nat × Nat × Nat × List (Nat × Value) × List Value := match L with
  | 0 => (0, 0, 0, lv_args 0 a, [])
  | _ => (0, 0, 0, [], [])
theorem pX11_isLoop_0 {Γ : CT} (hC : Ctx Γ "SpiritWallModel" cX11_isLoop 2 (some .boolean) rmX11_isLoop) (hnt : NT Γ) (J : JT) (hJ : ∀ L a, Cor Γ 2 (lX11_isLoop L a).1 (lX11_isLoop L a).2.1 (lX11_isLoop L a).2.2.1 (lX11_isLoop L a).2.2.2.1 (lX11_isLoop L a).2.2.2.2 (J L a)) (a : List Value) : Cor Γ 2 0 0 0 (lv_args 0 a) [] (bX11_isLoop_0 J a) := by
  unfold bX11_isLoop_0
  split
  · rename_i x0 x1
    refine c_sub [0, 1] rfl (loc' := [(0, .ref x0), (1, .int x1)]) ?_
    refine q_aload_n hC 0 dX11_isLoop_0 rfl rfl ?_
    refine q_cVV hC hnt (stk := []) (as := []) sX11_reckons (ci := 11) (by decide) rfl nX11_reckons rfl w_1016 w_1018 w_1019 w_830 w_1017 (Nat.le_of_ble_eq_true rfl) dX11_isLoop_1 rfl ?_
    refine q_iload_n hC 1 dX11_isLoop_4 rfl rfl ?_
    refine q_i2l hC dX11_isLoop_5 ?_
    refine q_lconst hC (v := 0) dX11_isLoop_6 rfl ?_
    refine q_aload_n hC 0 dX11_isLoop_7 rfl rfl ?_
    refine q_cVI hC hnt (stk := [.long 0, .long (x1.toInt64)]) (as := []) sX11_loops (ci := 11) (by decide) rfl nX11_loops rfl w_1004 w_1006 w_1007 w_830 w_1005 (Nat.le_of_ble_eq_true rfl) dX11_isLoop_8 rfl (fun v1 => ?_)
    refine q_iconst hC dX11_isLoop_11 rfl ?_
    refine q_isub hC dX11_isLoop_12 ?_
    refine q_i2l hC dX11_isLoop_13 ?_
    refine q_cSI hC hnt (stk := []) (as := [.long (x1.toInt64), .long 0, .long ((v1 - 1).toInt64)]) sX11_isIn nX11_isIn rfl w_847 w_849 w_830 w_848 (Nat.le_of_ble_eq_true rfl) dX11_isLoop_14 rfl (fun v2 => ?_)
    exact q_zret hC dX11_isLoop_17 (Nat.le_of_ble_eq_true rfl) (Nat.le_of_ble_eq_true rfl)
  · exact c_no
theorem sX11_isLoop : Snd yX11_isLoop (.code yX11_isLoop cX11_isLoop 2 (some .boolean)) rmX11_isLoop SX11_isLoop := by
  refine Snd.of lX11_isLoop (by decide +kernel) (fun _ => rfl) ?_
  intro Γ hC hnt hnm J hJ L a
  match L with
  | 0 => exact pX11_isLoop_0 hC hnt J hJ a
  | L + 1 => exact c_no
/-! SpiritWallModel.edgesOfLoop(I)I -/
theorem dX11_edgesOfLoop_0 : decode cX11_edgesOfLoop 0 = .ok (.aload_n 0, 1) := by decide +kernel
theorem dX11_edgesOfLoop_1 : decode cX11_edgesOfLoop 1 = .ok (.iload_n 1, 1) := by decide +kernel
theorem dX11_edgesOfLoop_2 : decode cX11_edgesOfLoop 2 = .ok (.invokevirtual 214, 3) := by decide +kernel
theorem dX11_edgesOfLoop_5 : decode cX11_edgesOfLoop 5 = .ok (.aload_n 0, 1) := by decide +kernel
theorem dX11_edgesOfLoop_6 : decode cX11_edgesOfLoop 6 = .ok (.getfield 192, 3) := by decide +kernel
theorem dX11_edgesOfLoop_9 : decode cX11_edgesOfLoop 9 = .ok (.ireturn, 1) := by decide +kernel
def rmX11_edgesOfLoop : Room := rmk 23 0 0 552
theorem nX11_edgesOfLoop : nameOk yX11_edgesOfLoop 1 = true := by decide +kernel
def bX11_edgesOfLoop_0 (J : JT) : List Value → Sem
  | [.ref x0, .int x1] =>
    ob 11 x0 (cV SX11_goesLoop [.ref x0, .int x1] <|
    gI 11 17 x0 fun v1 =>
    rI v1)
  | _ => no
def bX11_edgesOfLoop (J : JT) : JT := fun L a => match L with
  | 0 => bX11_edgesOfLoop_0 J a
  | _ => no
def SX11_edgesOfLoop : ST := mk 2 bX11_edgesOfLoop
def lX11_edgesOfLoop (L : Nat) (a : List Value) : Nat × Nat × Nat × List (Nat × Value) × List Value := match L with
  | 0 => (0, 0, 0, lv_args 0 a, [])
  | _ => (0, 0, 0, [], [])
theorem pX11_edgesOfLoop_0 {Γ : CT} (hC : Ctx Γ "SpiritWallModel" cX11_edgesOfLoop 2 (some .int) rmX11_edgesOfLoop) (hnt : NT Γ) (J : JT) (hJ : ∀ L a, Cor Γ 2 (lX11_edgesOfLoop L a).1 (lX11_edgesOfLoop L a).2.1 (lX11_edgesOfLoop L a).2.2.1 (lX11_edgesOfLoop L a).2.2.2.1 (lX11_edgesOfLoop L a).2.2.2.2 (J L a)) (a : List Value) : Cor Γ 2 0 0 0 (lv_args 0 a) [] (bX11_edgesOfLoop_0 J a) := by
  unfold bX11_edgesOfLoop_0
  split
  · rename_i x0 x1
    refine c_sub [0, 1] rfl (loc' := [(0, .ref x0), (1, .int x1)]) ?_
    refine q_aload_n hC 0 dX11_edgesOfLoop_0 rfl rfl ?_
    refine q_iload_n hC 1 dX11_edgesOfLoop_1 rfl rfl ?_
    refine q_cVV hC hnt (stk := []) (as := [.int x1]) sX11_goesLoop (ci := 11) (by decide) rfl nX11_goesLoop rfl w_979 w_981 w_982 w_830 w_980 (Nat.le_of_ble_eq_true rfl) dX11_edgesOfLoop_2 rfl ?_
    refine q_aload_n hC 0 dX11_edgesOfLoop_5 rfl rfl ?_
    refine q_getI hC (by decide) (by decide) rfl w_954 dX11_edgesOfLoop_6 (fun v1 => ?_)
    exact q_iret hC dX11_edgesOfLoop_9 (Nat.le_of_ble_eq_true rfl) (Nat.le_of_ble_eq_true rfl)
  · exact c_no
theorem sX11_edgesOfLoop : Snd yX11_edgesOfLoop (.code yX11_edgesOfLoop cX11_edgesOfLoop 2 (some .int)) rmX11_edgesOfLoop SX11_edgesOfLoop := by
  refine Snd.of lX11_edgesOfLoop (by decide +kernel) (fun _ => rfl) ?_
  intro Γ hC hnt hnm J hJ L a
  match L with
  | 0 => exact pX11_edgesOfLoop_0 hC hnt J hJ a
  | L + 1 => exact c_no
/-! SpiritWallModel.loop(II)I -/
theorem dX11_loop_0 : decode cX11_loop 0 = .ok (.aload_n 0, 1) := by decide +kernel
theorem dX11_loop_1 : decode cX11_loop 1 = .ok (.aload_n 0, 1) := by decide +kernel
theorem dX11_loop_2 : decode cX11_loop 2 = .ok (.iload_n 1, 1) := by decide +kernel
theorem dX11_loop_3 : decode cX11_loop 3 = .ok (.invokevirtual 313, 3) := by decide +kernel
theorem dX11_loop_6 : decode cX11_loop 6 = .ok (.invokevirtual 77, 3) := by decide +kernel
theorem dX11_loop_9 : decode cX11_loop 9 = .ok (.ifCond .eq 20, 3) := by decide +kernel
theorem dX11_loop_12 : decode cX11_loop 12 = .ok (.aload_n 0, 1) := by decide +kernel
theorem dX11_loop_13 : decode cX11_loop 13 = .ok (.iload_n 2, 1) := by decide +kernel
theorem dX11_loop_14 : decode cX11_loop 14 = .ok (.i2l, 1) := by decide +kernel
theorem dX11_loop_15 : decode cX11_loop 15 = .ok (.lconst 0, 1) := by decide +kernel
theorem dX11_loop_16 : decode cX11_loop 16 = .ok (.ldc2_w 316, 3) := by decide +kernel
theorem dX11_loop_19 : decode cX11_loop 19 = .ok (.invokestatic 89, 3) := by decide +kernel
theorem dX11_loop_22 : decode cX11_loop 22 = .ok (.iconst 2, 1) := by decide +kernel
theorem dX11_loop_23 : decode cX11_loop 23 = .ok (.invokevirtual 283, 3) := by decide +kernel
theorem dX11_loop_26 : decode cX11_loop 26 = .ok (.ifCond .ne 5, 3) := by decide +kernel
theorem dX11_loop_29 : decode cX11_loop 29 = .ok (.iconst 0, 1) := by decide +kernel
theorem dX11_loop_30 : decode cX11_loop 30 = .ok (.ireturn, 1) := by decide +kernel
theorem dX11_loop_31 : decode cX11_loop 31 = .ok (.iload_n 2, 1) := by decide +kernel
theorem dX11_loop_32 : decode cX11_loop 32 = .ok (.tableswitch 72 0 4 #[36, 45, 54, 60, 66], 36) := by decide +kernel
theorem dX11_loop_68 : decode cX11_loop 68 = .ok (.aload_n 0, 1) := by decide +kernel
theorem dX11_loop_69 : decode cX11_loop 69 = .ok (.iload_n 1, 1) := by decide +kernel
theorem dX11_loop_70 : decode cX11_loop 70 = .ok (.invokevirtual 208, 3) := by decide +kernel
theorem dX11_loop_73 : decode cX11_loop 73 = .ok (.bipush 12, 2) := by decide +kernel
theorem dX11_loop_75 : decode cX11_loop 75 = .ok (.idiv, 1) := by decide +kernel
theorem dX11_loop_76 : decode cX11_loop 76 = .ok (.ireturn, 1) := by decide +kernel
theorem dX11_loop_77 : decode cX11_loop 77 = .ok (.aload_n 0, 1) := by decide +kernel
theorem dX11_loop_78 : decode cX11_loop 78 = .ok (.iload_n 1, 1) := by decide +kernel
theorem dX11_loop_79 : decode cX11_loop 79 = .ok (.invokevirtual 208, 3) := by decide +kernel
theorem dX11_loop_82 : decode cX11_loop 82 = .ok (.bipush 12, 2) := by decide +kernel
theorem dX11_loop_84 : decode cX11_loop 84 = .ok (.irem, 1) := by decide +kernel
theorem dX11_loop_85 : decode cX11_loop 85 = .ok (.ireturn, 1) := by decide +kernel
theorem dX11_loop_86 : decode cX11_loop 86 = .ok (.aload_n 0, 1) := by decide +kernel
theorem dX11_loop_87 : decode cX11_loop 87 = .ok (.iload_n 1, 1) := by decide +kernel
theorem dX11_loop_88 : decode cX11_loop 88 = .ok (.invokevirtual 318, 3) := by decide +kernel
theorem dX11_loop_91 : decode cX11_loop 91 = .ok (.ireturn, 1) := by decide +kernel
theorem dX11_loop_92 : decode cX11_loop 92 = .ok (.aload_n 0, 1) := by decide +kernel
theorem dX11_loop_93 : decode cX11_loop 93 = .ok (.iload_n 1, 1) := by decide +kernel
theorem dX11_loop_94 : decode cX11_loop 94 = .ok (.invokevirtual 229, 3) := by decide +kernel
theorem dX11_loop_97 : decode cX11_loop 97 = .ok (.ireturn, 1) := by decide +kernel
theorem dX11_loop_98 : decode cX11_loop 98 = .ok (.aload_n 0, 1) := by decide +kernel
theorem dX11_loop_99 : decode cX11_loop 99 = .ok (.iload_n 1, 1) := by decide +kernel
theorem dX11_loop_100 : decode cX11_loop 100 = .ok (.invokevirtual 224, 3) := by decide +kernel
theorem dX11_loop_103 : decode cX11_loop 103 = .ok (.ireturn, 1) := by decide +kernel
theorem dX11_loop_104 : decode cX11_loop 104 = .ok (.aload_n 0, 1) := by decide +kernel
theorem dX11_loop_105 : decode cX11_loop 105 = .ok (.iload_n 1, 1) := by decide +kernel
theorem dX11_loop_106 : decode cX11_loop 106 = .ok (.invokevirtual 238, 3) := by decide +kernel
theorem dX11_loop_109 : decode cX11_loop 109 = .ok (.ifCond .eq 7, 3) := by decide +kernel
theorem dX11_loop_112 : decode cX11_loop 112 = .ok (.iconst 1, 1) := by decide +kernel
theorem dX11_loop_113 : decode cX11_loop 113 = .ok (.goto 4, 3) := by decide +kernel
theorem dX11_loop_116 : decode cX11_loop 116 = .ok (.iconst 0, 1) := by decide +kernel
theorem dX11_loop_117 : decode cX11_loop 117 = .ok (.ireturn, 1) := by decide +kernel
def rmX11_loop : Room := rmk 26 0 0 619
theorem nX11_loop : nameOk yX11_loop 2 = true := by decide +kernel
def bX11_loop_0 (J : JT) : List Value → Sem
  | [.ref x0, .int x1, .int x2] =>
    ob 11 x0 (cI SX11_isLoop [.ref x0, .int x1] fun v1 =>
    ob 11 x0 (cI SX11_is [.ref x0, .int v1] fun v2 =>
    br (v2 = 0)
    (rI 0)
    (cI SX11_isIn [.long (x2.toInt64), .long 0, .long 5] fun v3 =>
    ob 11 x0 (cI SX11_may [.ref x0, .int v3, .int 2] fun v4 =>
    br (v4 = 0)
    (rI 0)
    (sw x2 (0) 5 fun k => match k with
    | 0 => (ob 11 x0 (cI SX11_loopEdge [.ref x0, .int x1] fun v5 =>
    nz 12 <|
    rI (v5 / 12)))
    | 1 => (ob 11 x0 (cI SX11_loopEdge [.ref x0, .int x1] fun v6 =>
    nz 12 <|
    rI (v6 - v6 / 12 * 12)))
    | 2 => (ob 11 x0 (cI SX11_edgesOfLoop [.ref x0, .int x1] fun v7 =>
    rI v7))
    | 3 => (ob 11 x0 (cI SX11_wayOf [.ref x0, .int x1] fun v8 =>
    rI v8))
    | 4 => (ob 11 x0 (cI SX11_misclosure [.ref x0, .int x1] fun v9 =>
    rI v9))
    | _ => (ob 11 x0 (cI SX11_closes [.ref x0, .int x1] fun v10 =>
    br (v10 = 0)
    (rI 0)
    (rI 1))))))))
  | _ => no
def bX11_loop (J : JT) : JT := fun L a => match L with
  | 0 => bX11_loop_0 J a
  | _ => no
def SX11_loop : ST := mk 3 bX11_loop
def lX11_loop (L : Nat) (a : List Value) : Nat × Nat × Nat × List (Nat × Value) × List Value := match L with
  | 0 => (0, 0, 0, lv_args 0 a, [])
  | _ => (0, 0, 0, [], [])
theorem pX11_loop_0 {Γ : CT} (hC : Ctx Γ "SpiritWallModel" cX11_loop 3 (some .int) rmX11_loop) (hnt : NT Γ) (J : JT) (hJ : ∀ L a, Cor Γ 3 (lX11_loop L a).1 (lX11_loop L a).2.1 (lX11_loop L a).2.2.1 (lX11_loop L a).2.2.2.1 (lX11_loop L a).2.2.2.2 (J L a)) (a : List Value) : Cor Γ 3 0 0 0 (lv_args 0 a) [] (bX11_loop_0 J a) := by
  unfold bX11_loop_0
  split
  · rename_i x0 x1 x2
    refine c_sub [0, 1, 2] rfl (loc' := [(0, .ref x0), (1, .int x1), (2, .int x2)]) ?_
    refine q_aload_n hC 0 dX11_loop_0 rfl rfl ?_
    refine q_aload_n hC 0 dX11_loop_1 rfl rfl ?_
    refine q_iload_n hC 1 dX11_loop_2 rfl rfl ?_
    refine q_cVI hC hnt (stk := [.ref x0]) (as := [.int x1]) sX11_isLoop (ci := 11) (by decide) rfl nX11_isLoop rfl w_1099 w_1101 w_1102 w_830 w_1100 (Nat.le_of_ble_eq_true rfl) dX11_loop_3 rfl (fun v1 => ?_)
    refine q_cVI hC hnt (stk := []) (as := [.int v1]) sX11_is (ci := 11) (by decide) rfl nX11_is rfl w_838 w_840 w_841 w_830 w_839 (Nat.le_of_ble_eq_true rfl) dX11_loop_6 rfl (fun v2 => ?_)
    refine q_if_eq hC 29 dX11_loop_9 rfl ?_ ?_
    · refine q_iconst hC dX11_loop_29 rfl ?_
      exact q_iret hC dX11_loop_30 (Nat.le_of_ble_eq_true rfl) (Nat.le_of_ble_eq_true rfl)
    · refine q_aload_n hC 0 dX11_loop_12 rfl rfl ?_
      refine q_iload_n hC 2 dX11_loop_13 rfl rfl ?_
      refine q_i2l hC dX11_loop_14 ?_
      refine q_lconst hC (v := 0) dX11_loop_15 rfl ?_
      refine q_ldc2 hC w_1103 dX11_loop_16 ?_
      refine q_cSI hC hnt (stk := [.ref x0]) (as := [.long (x2.toInt64), .long 0, .long 5]) sX11_isIn nX11_isIn rfl w_847 w_849 w_830 w_848 (Nat.le_of_ble_eq_true rfl) dX11_loop_19 rfl (fun v3 => ?_)
      refine q_iconst hC dX11_loop_22 rfl ?_
      refine q_cVI hC hnt (stk := []) (as := [.int v3, .int 2]) sX11_may (ci := 11) (by decide) rfl nX11_may rfl w_1065 w_1067 w_1068 w_830 w_1066 (Nat.le_of_ble_eq_true rfl) dX11_loop_23 rfl (fun v4 => ?_)
      refine q_if_ne hC 31 dX11_loop_26 rfl ?_ ?_
      · refine q_iload_n hC 2 dX11_loop_31 rfl rfl ?_
        refine q_sw hC (0) 5 (fun k => ([68, 77, 86, 92, 98] : List Nat).getD k 104) dX11_loop_32 rfl rfl (by decide +kernel) rfl ?_
        intro i hi
        match i, hi with
        | 0, _ =>
          refine c_pc (pc' := 68) rfl ?_
          refine q_aload_n hC 0 dX11_loop_68 rfl rfl ?_
          refine q_iload_n hC 1 dX11_loop_69 rfl rfl ?_
          refine q_cVI hC hnt (stk := []) (as := [.int x1]) sX11_loopEdge (ci := 11) (by decide) rfl nX11_loopEdge rfl w_971 w_973 w_974 w_830 w_972 (Nat.le_of_ble_eq_true rfl) dX11_loop_70 rfl (fun v5 => ?_)
          refine q_bipush hC (v := 12) dX11_loop_73 rfl ?_
          refine q_idiv hC dX11_loop_75 ?_
          exact q_iret hC dX11_loop_76 (Nat.le_of_ble_eq_true rfl) (Nat.le_of_ble_eq_true rfl)
        | 1, _ =>
          refine c_pc (pc' := 77) rfl ?_
          refine q_aload_n hC 0 dX11_loop_77 rfl rfl ?_
          refine q_iload_n hC 1 dX11_loop_78 rfl rfl ?_
          refine q_cVI hC hnt (stk := []) (as := [.int x1]) sX11_loopEdge (ci := 11) (by decide) rfl nX11_loopEdge rfl w_971 w_973 w_974 w_830 w_972 (Nat.le_of_ble_eq_true rfl) dX11_loop_79 rfl (fun v6 => ?_)
          refine q_bipush hC (v := 12) dX11_loop_82 rfl ?_
          refine q_irem hC dX11_loop_84 ?_
          exact q_iret hC dX11_loop_85 (Nat.le_of_ble_eq_true rfl) (Nat.le_of_ble_eq_true rfl)
        | 2, _ =>
          refine c_pc (pc' := 86) rfl ?_
          refine q_aload_n hC 0 dX11_loop_86 rfl rfl ?_
          refine q_iload_n hC 1 dX11_loop_87 rfl rfl ?_
          refine q_cVI hC hnt (stk := []) (as := [.int x1]) sX11_edgesOfLoop (ci := 11) (by decide) rfl nX11_edgesOfLoop rfl w_1104 w_1106 w_1107 w_830 w_1105 (Nat.le_of_ble_eq_true rfl) dX11_loop_88 rfl (fun v7 => ?_)
          exact q_iret hC dX11_loop_91 (Nat.le_of_ble_eq_true rfl) (Nat.le_of_ble_eq_true rfl)
        | 3, _ =>
          refine c_pc (pc' := 92) rfl ?_
          refine q_aload_n hC 0 dX11_loop_92 rfl rfl ?_
          refine q_iload_n hC 1 dX11_loop_93 rfl rfl ?_
          refine q_cVI hC hnt (stk := []) (as := [.int x1]) sX11_wayOf (ci := 11) (by decide) rfl nX11_wayOf rfl w_996 w_998 w_999 w_830 w_997 (Nat.le_of_ble_eq_true rfl) dX11_loop_94 rfl (fun v8 => ?_)
          exact q_iret hC dX11_loop_97 (Nat.le_of_ble_eq_true rfl) (Nat.le_of_ble_eq_true rfl)
        | 4, _ =>
          refine c_pc (pc' := 98) rfl ?_
          refine q_aload_n hC 0 dX11_loop_98 rfl rfl ?_
          refine q_iload_n hC 1 dX11_loop_99 rfl rfl ?_
          refine q_cVI hC hnt (stk := []) (as := [.int x1]) sX11_misclosure (ci := 11) (by decide) rfl nX11_misclosure rfl w_991 w_993 w_994 w_830 w_992 (Nat.le_of_ble_eq_true rfl) dX11_loop_100 rfl (fun v9 => ?_)
          exact q_iret hC dX11_loop_103 (Nat.le_of_ble_eq_true rfl) (Nat.le_of_ble_eq_true rfl)
        | 5, _ =>
          refine c_pc (pc' := 104) rfl ?_
          refine q_aload_n hC 0 dX11_loop_104 rfl rfl ?_
          refine q_iload_n hC 1 dX11_loop_105 rfl rfl ?_
          refine q_cVI hC hnt (stk := []) (as := [.int x1]) sX11_closes (ci := 11) (by decide) rfl nX11_closes rfl w_1008 w_1010 w_1011 w_830 w_1009 (Nat.le_of_ble_eq_true rfl) dX11_loop_106 rfl (fun v10 => ?_)
          refine q_if_eq hC 116 dX11_loop_109 rfl ?_ ?_
          · refine q_iconst hC dX11_loop_116 rfl ?_
            exact q_iret hC dX11_loop_117 (Nat.le_of_ble_eq_true rfl) (Nat.le_of_ble_eq_true rfl)
          · refine q_iconst hC dX11_loop_112 rfl ?_
            refine q_goto hC 117 dX11_loop_113 rfl ?_
            exact q_iret hC dX11_loop_117 (Nat.le_of_ble_eq_true rfl) (Nat.le_of_ble_eq_true rfl)
        | k + 6, h => exact absurd h (by omega)
      · refine q_iconst hC dX11_loop_29 rfl ?_
        exact q_iret hC dX11_loop_30 (Nat.le_of_ble_eq_true rfl) (Nat.le_of_ble_eq_true rfl)
  · exact c_no
theorem sX11_loop : Snd yX11_loop (.code yX11_loop cX11_loop 3 (some .int)) rmX11_loop SX11_loop := by
  refine Snd.of lX11_loop (by decide +kernel) (fun _ => rfl) ?_
  intro Γ hC hnt hnm J hJ L a
  match L with
  | 0 => exact pX11_loop_0 hC hnt J hJ a
  | L + 1 => exact c_no
/-! SpiritWallModel.loopMark(II)I -/
theorem dX11_loopMark_0 : decode cX11_loopMark 0 = .ok (.aload_n 0, 1) := by decide +kernel
theorem dX11_loopMark_1 : decode cX11_loopMark 1 = .ok (.aload_n 0, 1) := by decide +kernel
theorem dX11_loopMark_2 : decode cX11_loopMark 2 = .ok (.iload_n 1, 1) := by decide +kernel
theorem dX11_loopMark_3 : decode cX11_loopMark 3 = .ok (.invokevirtual 313, 3) := by decide +kernel
theorem dX11_loopMark_6 : decode cX11_loopMark 6 = .ok (.invokevirtual 77, 3) := by decide +kernel
theorem dX11_loopMark_9 : decode cX11_loopMark 9 = .ok (.ifCond .ne 5, 3) := by decide +kernel
theorem dX11_loopMark_12 : decode cX11_loopMark 12 = .ok (.iconst 0, 1) := by decide +kernel
theorem dX11_loopMark_13 : decode cX11_loopMark 13 = .ok (.ireturn, 1) := by decide +kernel
theorem dX11_loopMark_14 : decode cX11_loopMark 14 = .ok (.aload_n 0, 1) := by decide +kernel
theorem dX11_loopMark_15 : decode cX11_loopMark 15 = .ok (.iload_n 1, 1) := by decide +kernel
theorem dX11_loopMark_16 : decode cX11_loopMark 16 = .ok (.invokevirtual 214, 3) := by decide +kernel
theorem dX11_loopMark_19 : decode cX11_loopMark 19 = .ok (.iload_n 2, 1) := by decide +kernel
theorem dX11_loopMark_20 : decode cX11_loopMark 20 = .ok (.i2l, 1) := by decide +kernel
theorem dX11_loopMark_21 : decode cX11_loopMark 21 = .ok (.lconst 0, 1) := by decide +kernel
theorem dX11_loopMark_22 : decode cX11_loopMark 22 = .ok (.aload_n 0, 1) := by decide +kernel
theorem dX11_loopMark_23 : decode cX11_loopMark 23 = .ok (.getfield 192, 3) := by decide +kernel
theorem dX11_loopMark_26 : decode cX11_loopMark 26 = .ok (.iconst 1, 1) := by decide +kernel
theorem dX11_loopMark_27 : decode cX11_loopMark 27 = .ok (.isub, 1) := by decide +kernel
theorem dX11_loopMark_28 : decode cX11_loopMark 28 = .ok (.i2l, 1) := by decide +kernel
theorem dX11_loopMark_29 : decode cX11_loopMark 29 = .ok (.invokestatic 89, 3) := by decide +kernel
theorem dX11_loopMark_32 : decode cX11_loopMark 32 = .ok (.ifCond .ne 5, 3) := by decide +kernel
theorem dX11_loopMark_35 : decode cX11_loopMark 35 = .ok (.iconst (-1), 1) := by decide +kernel
theorem dX11_loopMark_36 : decode cX11_loopMark 36 = .ok (.ireturn, 1) := by decide +kernel
theorem dX11_loopMark_37 : decode cX11_loopMark 37 = .ok (.iload_n 2, 1) := by decide +kernel
theorem dX11_loopMark_38 : decode cX11_loopMark 38 = .ok (.ifCond .ne 14, 3) := by decide +kernel
theorem dX11_loopMark_41 : decode cX11_loopMark 41 = .ok (.aload_n 0, 1) := by decide +kernel
theorem dX11_loopMark_42 : decode cX11_loopMark 42 = .ok (.iload_n 1, 1) := by decide +kernel
theorem dX11_loopMark_43 : decode cX11_loopMark 43 = .ok (.invokevirtual 208, 3) := by decide +kernel
theorem dX11_loopMark_46 : decode cX11_loopMark 46 = .ok (.bipush 12, 2) := by decide +kernel
theorem dX11_loopMark_48 : decode cX11_loopMark 48 = .ok (.idiv, 1) := by decide +kernel
theorem dX11_loopMark_49 : decode cX11_loopMark 49 = .ok (.goto 11, 3) := by decide +kernel
theorem dX11_loopMark_52 : decode cX11_loopMark 52 = .ok (.aload_n 0, 1) := by decide +kernel
theorem dX11_loopMark_53 : decode cX11_loopMark 53 = .ok (.getfield 47, 3) := by decide +kernel
theorem dX11_loopMark_56 : decode cX11_loopMark 56 = .ok (.iload_n 2, 1) := by decide +kernel
theorem dX11_loopMark_57 : decode cX11_loopMark 57 = .ok (.iconst 1, 1) := by decide +kernel
theorem dX11_loopMark_58 : decode cX11_loopMark 58 = .ok (.isub, 1) := by decide +kernel
theorem dX11_loopMark_59 : decode cX11_loopMark 59 = .ok (.iaload, 1) := by decide +kernel
theorem dX11_loopMark_60 : decode cX11_loopMark 60 = .ok (.ireturn, 1) := by decide +kernel
def rmX11_loopMark : Room := rmk 23 0 0 552
theorem nX11_loopMark : nameOk yX11_loopMark 2 = true := by decide +kernel
def bX11_loopMark_0 (J : JT) : List Value → Sem
  | [.ref x0, .int x1, .int x2] =>
    ob 11 x0 (cI SX11_isLoop [.ref x0, .int x1] fun v1 =>
    ob 11 x0 (cI SX11_is [.ref x0, .int v1] fun v2 =>
    br (v2 = 0)
    (rI 0)
    (ob 11 x0 (cV SX11_goesLoop [.ref x0, .int x1] <|
    gI 11 17 x0 fun v3 =>
    cI SX11_isIn [.long (x2.toInt64), .long 0, .long ((v3 - 1).toInt64)] fun v4 =>
    br (v4 = 0)
    (rI (-1))
    (br (x2 = 0)
    (ob 11 x0 (cI SX11_loopEdge [.ref x0, .int x1] fun v7 =>
    nz 12 <|
    rI (v7 / 12)))
    (gR 11 16 x0 fun r5 =>
    aI r5 (x2 - 1) fun v6 =>
    rI v6))))))
  | _ => no
def bX11_loopMark (J : JT) : JT := fun L a => match L with
  | 0 => bX11_loopMark_0 J a
  | _ => no
def SX11_loopMark : ST := mk 3 bX11_loopMark
def lX11_loopMark (L : Nat) (a : List Value) : Nat × Nat × Nat × List (Nat × Value) × List Value := match L with
  | 0 => (0, 0, 0, lv_args 0 a, [])
  | _ => (0, 0, 0, [], [])
theorem pX11_loopMark_0 {Γ : CT} (hC : Ctx Γ "SpiritWallModel" cX11_loopMark 3 (some .int) rmX11_loopMark) (hnt : NT Γ) (J : JT) (hJ : ∀ L a, Cor Γ 3 (lX11_loopMark L a).1 (lX11_loopMark L a).2.1 (lX11_loopMark L a).2.2.1 (lX11_loopMark L a).2.2.2.1 (lX11_loopMark L a).2.2.2.2 (J L a)) (a : List Value) : Cor Γ 3 0 0 0 (lv_args 0 a) [] (bX11_loopMark_0 J a) := by
  unfold bX11_loopMark_0
  split
  · rename_i x0 x1 x2
    refine c_sub [0, 1, 2] rfl (loc' := [(0, .ref x0), (1, .int x1), (2, .int x2)]) ?_
    refine q_aload_n hC 0 dX11_loopMark_0 rfl rfl ?_
    refine q_aload_n hC 0 dX11_loopMark_1 rfl rfl ?_
    refine q_iload_n hC 1 dX11_loopMark_2 rfl rfl ?_
    refine q_cVI hC hnt (stk := [.ref x0]) (as := [.int x1]) sX11_isLoop (ci := 11) (by decide) rfl nX11_isLoop rfl w_1099 w_1101 w_1102 w_830 w_1100 (Nat.le_of_ble_eq_true rfl) dX11_loopMark_3 rfl (fun v1 => ?_)
    refine q_cVI hC hnt (stk := []) (as := [.int v1]) sX11_is (ci := 11) (by decide) rfl nX11_is rfl w_838 w_840 w_841 w_830 w_839 (Nat.le_of_ble_eq_true rfl) dX11_loopMark_6 rfl (fun v2 => ?_)
    refine q_if_ne hC 14 dX11_loopMark_9 rfl ?_ ?_
    · refine q_aload_n hC 0 dX11_loopMark_14 rfl rfl ?_
      refine q_iload_n hC 1 dX11_loopMark_15 rfl rfl ?_
      refine q_cVV hC hnt (stk := []) (as := [.int x1]) sX11_goesLoop (ci := 11) (by decide) rfl nX11_goesLoop rfl w_979 w_981 w_982 w_830 w_980 (Nat.le_of_ble_eq_true rfl) dX11_loopMark_16 rfl ?_
      refine q_iload_n hC 2 dX11_loopMark_19 rfl rfl ?_
      refine q_i2l hC dX11_loopMark_20 ?_
      refine q_lconst hC (v := 0) dX11_loopMark_21 rfl ?_
      refine q_aload_n hC 0 dX11_loopMark_22 rfl rfl ?_
      refine q_getI hC (by decide) (by decide) rfl w_954 dX11_loopMark_23 (fun v3 => ?_)
      refine q_iconst hC dX11_loopMark_26 rfl ?_
      refine q_isub hC dX11_loopMark_27 ?_
      refine q_i2l hC dX11_loopMark_28 ?_
      refine q_cSI hC hnt (stk := []) (as := [.long (x2.toInt64), .long 0, .long ((v3 - 1).toInt64)]) sX11_isIn nX11_isIn rfl w_847 w_849 w_830 w_848 (Nat.le_of_ble_eq_true rfl) dX11_loopMark_29 rfl (fun v4 => ?_)
      refine q_if_ne hC 37 dX11_loopMark_32 rfl ?_ ?_
      · refine q_iload_n hC 2 dX11_loopMark_37 rfl rfl ?_
        refine q_if_ne hC 52 dX11_loopMark_38 rfl ?_ ?_
        · refine q_aload_n hC 0 dX11_loopMark_52 rfl rfl ?_
          refine q_getR hC (by decide) (by decide) rfl w_821 dX11_loopMark_53 (fun r5 => ?_)
          refine q_iload_n hC 2 dX11_loopMark_56 rfl rfl ?_
          refine q_iconst hC dX11_loopMark_57 rfl ?_
          refine q_isub hC dX11_loopMark_58 ?_
          refine q_iald hC dX11_loopMark_59 (fun v6 => ?_)
          exact q_iret hC dX11_loopMark_60 (Nat.le_of_ble_eq_true rfl) (Nat.le_of_ble_eq_true rfl)
        · refine q_aload_n hC 0 dX11_loopMark_41 rfl rfl ?_
          refine q_iload_n hC 1 dX11_loopMark_42 rfl rfl ?_
          refine q_cVI hC hnt (stk := []) (as := [.int x1]) sX11_loopEdge (ci := 11) (by decide) rfl nX11_loopEdge rfl w_971 w_973 w_974 w_830 w_972 (Nat.le_of_ble_eq_true rfl) dX11_loopMark_43 rfl (fun v7 => ?_)
          refine q_bipush hC (v := 12) dX11_loopMark_46 rfl ?_
          refine q_idiv hC dX11_loopMark_48 ?_
          refine q_goto hC 60 dX11_loopMark_49 rfl ?_
          exact q_iret hC dX11_loopMark_60 (Nat.le_of_ble_eq_true rfl) (Nat.le_of_ble_eq_true rfl)
      · refine q_iconst hC dX11_loopMark_35 rfl ?_
        exact q_iret hC dX11_loopMark_36 (Nat.le_of_ble_eq_true rfl) (Nat.le_of_ble_eq_true rfl)
    · refine q_iconst hC dX11_loopMark_12 rfl ?_
      exact q_iret hC dX11_loopMark_13 (Nat.le_of_ble_eq_true rfl) (Nat.le_of_ble_eq_true rfl)
  · exact c_no
theorem sX11_loopMark : Snd yX11_loopMark (.code yX11_loopMark cX11_loopMark 3 (some .int)) rmX11_loopMark SX11_loopMark := by
  refine Snd.of lX11_loopMark (by decide +kernel) (fun _ => rfl) ?_
  intro Γ hC hnt hnm J hJ L a
  match L with
  | 0 => exact pX11_loopMark_0 hC hnt J hJ a
  | L + 1 => exact c_no
/-! SpiritWallModel.worstLoop()I -/
theorem dX11_worstLoop_0 : decode cX11_worstLoop 0 = .ok (.aload_n 0, 1) := by decide +kernel
theorem dX11_worstLoop_1 : decode cX11_worstLoop 1 = .ok (.iconst 0, 1) := by decide +kernel
theorem dX11_worstLoop_2 : decode cX11_worstLoop 2 = .ok (.putfield 67, 3) := by decide +kernel
theorem dX11_worstLoop_5 : decode cX11_worstLoop 5 = .ok (.aload_n 0, 1) := by decide +kernel
theorem dX11_worstLoop_6 : decode cX11_worstLoop 6 = .ok (.invokevirtual 244, 3) := by decide +kernel
theorem dX11_worstLoop_9 : decode cX11_worstLoop 9 = .ok (.iconst (-1), 1) := by decide +kernel
theorem dX11_worstLoop_10 : decode cX11_worstLoop 10 = .ok (.istore_n 1, 1) := by decide +kernel
theorem dX11_worstLoop_11 : decode cX11_worstLoop 11 = .ok (.lconst 0, 1) := by decide +kernel
theorem dX11_worstLoop_12 : decode cX11_worstLoop 12 = .ok (.lstore_n 2, 1) := by decide +kernel
theorem dX11_worstLoop_13 : decode cX11_worstLoop 13 = .ok (.lconst 1, 1) := by decide +kernel
theorem dX11_worstLoop_14 : decode cX11_worstLoop 14 = .ok (.lstore 4, 2) := by decide +kernel
theorem dX11_worstLoop_16 : decode cX11_worstLoop 16 = .ok (.iconst 0, 1) := by decide +kernel
theorem dX11_worstLoop_17 : decode cX11_worstLoop 17 = .ok (.istore 6, 2) := by decide +kernel
theorem dX11_worstLoop_19 : decode cX11_worstLoop 19 = .ok (.iload 6, 2) := by decide +kernel
theorem dX11_worstLoop_21 : decode cX11_worstLoop 21 = .ok (.aload_n 0, 1) := by decide +kernel
theorem dX11_worstLoop_22 : decode cX11_worstLoop 22 = .ok (.invokevirtual 235, 3) := by decide +kernel
theorem dX11_worstLoop_25 : decode cX11_worstLoop 25 = .ok (.if_icmp .ge 64, 3) := by decide +kernel
theorem dX11_worstLoop_28 : decode cX11_worstLoop 28 = .ok (.aload_n 0, 1) := by decide +kernel
theorem dX11_worstLoop_29 : decode cX11_worstLoop 29 = .ok (.iload 6, 2) := by decide +kernel
theorem dX11_worstLoop_31 : decode cX11_worstLoop 31 = .ok (.invokevirtual 224, 3) := by decide +kernel
theorem dX11_worstLoop_34 : decode cX11_worstLoop 34 = .ok (.i2l, 1) := by decide +kernel
theorem dX11_worstLoop_35 : decode cX11_worstLoop 35 = .ok (.lstore 7, 2) := by decide +kernel
theorem dX11_worstLoop_37 : decode cX11_worstLoop 37 = .ok (.aload_n 0, 1) := by decide +kernel
theorem dX11_worstLoop_38 : decode cX11_worstLoop 38 = .ok (.iload 6, 2) := by decide +kernel
theorem dX11_worstLoop_40 : decode cX11_worstLoop 40 = .ok (.invokevirtual 229, 3) := by decide +kernel
theorem dX11_worstLoop_43 : decode cX11_worstLoop 43 = .ok (.i2l, 1) := by decide +kernel
theorem dX11_worstLoop_44 : decode cX11_worstLoop 44 = .ok (.lstore 9, 2) := by decide +kernel
theorem dX11_worstLoop_46 : decode cX11_worstLoop 46 = .ok (.iload_n 1, 1) := by decide +kernel
theorem dX11_worstLoop_47 : decode cX11_worstLoop 47 = .ok (.iconst (-1), 1) := by decide +kernel
theorem dX11_worstLoop_48 : decode cX11_worstLoop 48 = .ok (.if_icmp .eq 22, 3) := by decide +kernel
theorem dX11_worstLoop_51 : decode cX11_worstLoop 51 = .ok (.lload 7, 2) := by decide +kernel
theorem dX11_worstLoop_53 : decode cX11_worstLoop 53 = .ok (.lload 7, 2) := by decide +kernel
theorem dX11_worstLoop_55 : decode cX11_worstLoop 55 = .ok (.lmul, 1) := by decide +kernel
theorem dX11_worstLoop_56 : decode cX11_worstLoop 56 = .ok (.lload 4, 2) := by decide +kernel
theorem dX11_worstLoop_58 : decode cX11_worstLoop 58 = .ok (.lmul, 1) := by decide +kernel
theorem dX11_worstLoop_59 : decode cX11_worstLoop 59 = .ok (.lload_n 2, 1) := by decide +kernel
theorem dX11_worstLoop_60 : decode cX11_worstLoop 60 = .ok (.lload 9, 2) := by decide +kernel
theorem dX11_worstLoop_62 : decode cX11_worstLoop 62 = .ok (.lmul, 1) := by decide +kernel
theorem dX11_worstLoop_63 : decode cX11_worstLoop 63 = .ok (.lcmp, 1) := by decide +kernel
theorem dX11_worstLoop_64 : decode cX11_worstLoop 64 = .ok (.ifCond .gt 6, 3) := by decide +kernel
theorem dX11_worstLoop_67 : decode cX11_worstLoop 67 = .ok (.goto 16, 3) := by decide +kernel
theorem dX11_worstLoop_70 : decode cX11_worstLoop 70 = .ok (.iload 6, 2) := by decide +kernel
theorem dX11_worstLoop_72 : decode cX11_worstLoop 72 = .ok (.istore_n 1, 1) := by decide +kernel
theorem dX11_worstLoop_73 : decode cX11_worstLoop 73 = .ok (.lload 7, 2) := by decide +kernel
theorem dX11_worstLoop_75 : decode cX11_worstLoop 75 = .ok (.lload 7, 2) := by decide +kernel
theorem dX11_worstLoop_77 : decode cX11_worstLoop 77 = .ok (.lmul, 1) := by decide +kernel
theorem dX11_worstLoop_78 : decode cX11_worstLoop 78 = .ok (.lstore_n 2, 1) := by decide +kernel
theorem dX11_worstLoop_79 : decode cX11_worstLoop 79 = .ok (.lload 9, 2) := by decide +kernel
theorem dX11_worstLoop_81 : decode cX11_worstLoop 81 = .ok (.lstore 4, 2) := by decide +kernel
theorem dX11_worstLoop_83 : decode cX11_worstLoop 83 = .ok (.iinc 6 1, 3) := by decide +kernel
theorem dX11_worstLoop_86 : decode cX11_worstLoop 86 = .ok (.goto (-67), 3) := by decide +kernel
theorem dX11_worstLoop_89 : decode cX11_worstLoop 89 = .ok (.iload_n 1, 1) := by decide +kernel
theorem dX11_worstLoop_90 : decode cX11_worstLoop 90 = .ok (.ireturn, 1) := by decide +kernel
def rmX11_worstLoop : Room := rmk 24 0 0 574
theorem nX11_worstLoop : nameOk yX11_worstLoop 0 = true := by decide +kernel
def bX11_worstLoop_0 (J : JT) : List Value → Sem
  | [.ref x0] =>
    pI 11 0 x0 0 <|
    ob 11 x0 (cV SX11_reckons [.ref x0] <|
    J 1 [.ref x0, .int (-1), .long 0, .long 1, .int 0])
  | _ => no
def bX11_worstLoop_1 (J : JT) : List Value → Sem
  | [.ref x0, .int x1, .long x2, .long x4, .int x6] =>
    ob 11 x0 (cI SX11_loops [.ref x0] fun v1 =>
    br (v1 ≤ x6)
    (rI x1)
    (ob 11 x0 (cI SX11_misclosure [.ref x0, .int x6] fun v2 =>
    lJ (v2.toInt64) fun y7_3 =>
    ob 11 x0 (cI SX11_wayOf [.ref x0, .int x6] fun v4 =>
    lJ (v4.toInt64) fun y9_5 =>
    br (x1 = ((-1) : Int32))
    (lJ (y7_3 * y7_3) fun y2_6 =>
    J 1 [.ref x0, .int x6, .long y2_6, .long y9_5, .int (x6 + 1)])
    (br (0 < (lg_cmp ((y7_3 * y7_3) * x4) (x2 * y9_5)))
    (lJ (y7_3 * y7_3) fun y2_7 =>
    J 1 [.ref x0, .int x6, .long y2_7, .long y9_5, .int (x6 + 1)])
    (J 1 [.ref x0, .int x1, .long x2, .long x4, .int (x6 + 1)]))))))
  | _ => no
def bX11_worstLoop (J : JT) : JT := fun L a => match L with
  | 0 => bX11_worstLoop_0 J a
  | 1 => bX11_worstLoop_1 J a
  | _ => no
def SX11_worstLoop : ST := mk 11 bX11_worstLoop
def lX11_worstLoop (L : Nat) (a : List Value) : Nat × Nat × Nat × List (Nat × Value) × List Value := match L with
  | 0 => (0, 0, 0, lv_args 0 a, [])
  | 1 => (0, 0, 19, List.zip [0, 1, 2, 4, 6] a, [])
  | _ => (0, 0, 0, [], [])
theorem pX11_worstLoop_0 {Γ : CT} (hC : Ctx Γ "SpiritWallModel" cX11_worstLoop 11 (some .int) rmX11_worstLoop) (hnt : NT Γ) (J : JT) (hJ : ∀ L a, Cor Γ 11 (lX11_worstLoop L a).1 (lX11_worstLoop L a).2.1 (lX11_worstLoop L a).2.2.1 (lX11_worstLoop L a).2.2.2.1 (lX11_worstLoop L a).2.2.2.2 (J L a)) (a : List Value) : Cor Γ 11 0 0 0 (lv_args 0 a) [] (bX11_worstLoop_0 J a) := by
  unfold bX11_worstLoop_0
  split
  · rename_i x0
    refine c_sub [0] rfl (loc' := [(0, .ref x0)]) ?_
    refine q_aload_n hC 0 dX11_worstLoop_0 rfl rfl ?_
    refine q_iconst hC dX11_worstLoop_1 rfl ?_
    refine q_putI hC (by decide) (by decide) rfl rfl w_833 dX11_worstLoop_2 ?_
    refine q_aload_n hC 0 dX11_worstLoop_5 rfl rfl ?_
    refine q_cVV hC hnt (stk := []) (as := []) sX11_reckons (ci := 11) (by decide) rfl nX11_reckons rfl w_1016 w_1018 w_1019 w_830 w_1017 (Nat.le_of_ble_eq_true rfl) dX11_worstLoop_6 rfl ?_
    refine q_iconst hC dX11_worstLoop_9 rfl ?_
    refine q_istore_nA hC (loc' := [(1, .int (-1)), (0, .ref x0)]) dX11_worstLoop_10 rfl (Nat.le_of_ble_eq_true rfl) rfl ?_
    refine q_lconst hC (v := 0) dX11_worstLoop_11 rfl ?_
    refine q_lstore_nA hC (loc' := [(2, .long 0), (1, .int (-1)), (0, .ref x0)]) dX11_worstLoop_12 rfl (Nat.le_of_ble_eq_true rfl) rfl ?_
    refine q_lconst hC (v := 1) dX11_worstLoop_13 rfl ?_
    refine q_lstoreA hC (loc' := [(4, .long 1), (2, .long 0), (1, .int (-1)), (0, .ref x0)]) dX11_worstLoop_14 (Nat.le_of_ble_eq_true rfl) rfl ?_
    refine q_iconst hC dX11_worstLoop_16 rfl ?_
    refine q_istoreA hC (loc' := [(6, .int 0), (4, .long 1), (2, .long 0), (1, .int (-1)), (0, .ref x0)]) dX11_worstLoop_17 (Nat.le_of_ble_eq_true rfl) rfl ?_
    exact c_sub [4, 3, 2, 1, 0] rfl (hJ 1 [.ref x0, .int (-1), .long 0, .long 1, .int 0])
  · exact c_no
theorem pX11_worstLoop_1 {Γ : CT} (hC : Ctx Γ "SpiritWallModel" cX11_worstLoop 11 (some .int) rmX11_worstLoop) (hnt : NT Γ) (J : JT) (hJ : ∀ L a, Cor Γ 11 (lX11_worstLoop L a).1 (lX11_worstLoop L a).2.1 (lX11_worstLoop L a).2.2.1 (lX11_worstLoop L a).2.2.2.1 (lX11_worstLoop L a).2.2.2.2 (J L a)) (a : List Value) : Cor Γ 11 0 0 19 (List.zip [0, 1, 2, 4, 6] a) [] (bX11_worstLoop_1 J a) := by
  unfold bX11_worstLoop_1
  split
  · rename_i x0 x1 x2 x4 x6
    refine c_sub [0, 1, 2, 3, 4] rfl (loc' := [(0, .ref x0), (1, .int x1), (2, .long x2), (4, .long x4), (6, .int x6)]) ?_
    refine q_iload hC 4 dX11_worstLoop_19 rfl ?_
    refine q_aload_n hC 0 dX11_worstLoop_21 rfl rfl ?_
    refine q_cVI hC hnt (stk := [.int x6]) (as := []) sX11_loops (ci := 11) (by decide) rfl nX11_loops rfl w_1004 w_1006 w_1007 w_830 w_1005 (Nat.le_of_ble_eq_true rfl) dX11_worstLoop_22 rfl (fun v1 => ?_)
    refine q_ic_ge hC 89 dX11_worstLoop_25 rfl ?_ ?_
    · refine q_iload_n hC 1 dX11_worstLoop_89 rfl rfl ?_
      exact q_iret hC dX11_worstLoop_90 (Nat.le_of_ble_eq_true rfl) (Nat.le_of_ble_eq_true rfl)
    · refine q_aload_n hC 0 dX11_worstLoop_28 rfl rfl ?_
      refine q_iload hC 4 dX11_worstLoop_29 rfl ?_
      refine q_cVI hC hnt (stk := []) (as := [.int x6]) sX11_misclosure (ci := 11) (by decide) rfl nX11_misclosure rfl w_991 w_993 w_994 w_830 w_992 (Nat.le_of_ble_eq_true rfl) dX11_worstLoop_31 rfl (fun v2 => ?_)
      refine q_i2l hC dX11_worstLoop_34 ?_
      refine q_lstore hC (fun y7_3 => [(7, .long y7_3), (0, .ref x0), (1, .int x1), (2, .long x2), (4, .long x4), (6, .int x6)]) dX11_worstLoop_35 (Nat.le_of_ble_eq_true rfl) (fun _ => rfl) (fun y7_3 => ?_)
      refine q_aload_n hC 1 dX11_worstLoop_37 rfl rfl ?_
      refine q_iload hC 5 dX11_worstLoop_38 rfl ?_
      refine q_cVI hC hnt (stk := []) (as := [.int x6]) sX11_wayOf (ci := 11) (by decide) rfl nX11_wayOf rfl w_996 w_998 w_999 w_830 w_997 (Nat.le_of_ble_eq_true rfl) dX11_worstLoop_40 rfl (fun v4 => ?_)
      refine q_i2l hC dX11_worstLoop_43 ?_
      refine q_lstore hC (fun y9_5 => [(9, .long y9_5), (7, .long y7_3), (0, .ref x0), (1, .int x1), (2, .long x2), (4, .long x4), (6, .int x6)]) dX11_worstLoop_44 (Nat.le_of_ble_eq_true rfl) (fun _ => rfl) (fun y9_5 => ?_)
      refine q_iload_n hC 3 dX11_worstLoop_46 rfl rfl ?_
      refine q_iconst hC dX11_worstLoop_47 rfl ?_
      refine q_ic_eq hC 70 dX11_worstLoop_48 rfl ?_ ?_
      · refine q_iload hC 6 dX11_worstLoop_70 rfl ?_
        refine q_istore_nA hC (loc' := [(1, .int x6), (9, .long y9_5), (7, .long y7_3), (0, .ref x0), (2, .long x2), (4, .long x4), (6, .int x6)]) dX11_worstLoop_72 rfl (Nat.le_of_ble_eq_true rfl) rfl ?_
        refine q_lload hC 2 dX11_worstLoop_73 rfl ?_
        refine q_lload hC 2 dX11_worstLoop_75 rfl ?_
        refine q_lmul hC dX11_worstLoop_77 ?_
        refine q_lstore_n hC (fun y2_6 => [(2, .long y2_6), (1, .int x6), (9, .long y9_5), (7, .long y7_3), (0, .ref x0), (4, .long x4), (6, .int x6)]) dX11_worstLoop_78 rfl (Nat.le_of_ble_eq_true rfl) (fun _ => rfl) (fun y2_6 => ?_)
        refine q_lload hC 2 dX11_worstLoop_79 rfl ?_
        refine q_lstoreA hC (loc' := [(4, .long y9_5), (2, .long y2_6), (1, .int x6), (9, .long y9_5), (7, .long y7_3), (0, .ref x0), (6, .int x6)]) dX11_worstLoop_81 (Nat.le_of_ble_eq_true rfl) rfl ?_
        refine q_iincA hC (loc' := [(6, .int (x6 + 1)), (4, .long y9_5), (2, .long y2_6), (1, .int x6), (9, .long y9_5), (7, .long y7_3), (0, .ref x0)]) 6 1 dX11_worstLoop_83 rfl rfl (Nat.le_of_ble_eq_true rfl) rfl ?_
        refine q_goto hC 19 dX11_worstLoop_86 rfl ?_
        exact c_sub [6, 3, 2, 1, 0] rfl (hJ 1 [.ref x0, .int x6, .long y2_6, .long y9_5, .int (x6 + 1)])
      · refine q_lload hC 1 dX11_worstLoop_51 rfl ?_
        refine q_lload hC 1 dX11_worstLoop_53 rfl ?_
        refine q_lmul hC dX11_worstLoop_55 ?_
        refine q_lload hC 5 dX11_worstLoop_56 rfl ?_
        refine q_lmul hC dX11_worstLoop_58 ?_
        refine q_lload_n hC 4 dX11_worstLoop_59 rfl rfl ?_
        refine q_lload hC 0 dX11_worstLoop_60 rfl ?_
        refine q_lmul hC dX11_worstLoop_62 ?_
        refine q_lcmp hC dX11_worstLoop_63 ?_
        refine q_if_gt hC 70 dX11_worstLoop_64 rfl ?_ ?_
        · refine q_iload hC 6 dX11_worstLoop_70 rfl ?_
          refine q_istore_nA hC (loc' := [(1, .int x6), (9, .long y9_5), (7, .long y7_3), (0, .ref x0), (2, .long x2), (4, .long x4), (6, .int x6)]) dX11_worstLoop_72 rfl (Nat.le_of_ble_eq_true rfl) rfl ?_
          refine q_lload hC 2 dX11_worstLoop_73 rfl ?_
          refine q_lload hC 2 dX11_worstLoop_75 rfl ?_
          refine q_lmul hC dX11_worstLoop_77 ?_
          refine q_lstore_n hC (fun y2_7 => [(2, .long y2_7), (1, .int x6), (9, .long y9_5), (7, .long y7_3), (0, .ref x0), (4, .long x4), (6, .int x6)]) dX11_worstLoop_78 rfl (Nat.le_of_ble_eq_true rfl) (fun _ => rfl) (fun y2_7 => ?_)
          refine q_lload hC 2 dX11_worstLoop_79 rfl ?_
          refine q_lstoreA hC (loc' := [(4, .long y9_5), (2, .long y2_7), (1, .int x6), (9, .long y9_5), (7, .long y7_3), (0, .ref x0), (6, .int x6)]) dX11_worstLoop_81 (Nat.le_of_ble_eq_true rfl) rfl ?_
          refine q_iincA hC (loc' := [(6, .int (x6 + 1)), (4, .long y9_5), (2, .long y2_7), (1, .int x6), (9, .long y9_5), (7, .long y7_3), (0, .ref x0)]) 6 1 dX11_worstLoop_83 rfl rfl (Nat.le_of_ble_eq_true rfl) rfl ?_
          refine q_goto hC 19 dX11_worstLoop_86 rfl ?_
          exact c_sub [6, 3, 2, 1, 0] rfl (hJ 1 [.ref x0, .int x6, .long y2_7, .long y9_5, .int (x6 + 1)])
        · refine q_goto hC 83 dX11_worstLoop_67 rfl ?_
          refine q_iincA hC (loc' := [(6, .int (x6 + 1)), (9, .long y9_5), (7, .long y7_3), (0, .ref x0), (1, .int x1), (2, .long x2), (4, .long x4)]) 6 1 dX11_worstLoop_83 rfl rfl (Nat.le_of_ble_eq_true rfl) rfl ?_
          refine q_goto hC 19 dX11_worstLoop_86 rfl ?_
          exact c_sub [3, 4, 5, 6, 0] rfl (hJ 1 [.ref x0, .int x1, .long x2, .long x4, .int (x6 + 1)])
  · exact c_no
theorem sX11_worstLoop : Snd yX11_worstLoop (.code yX11_worstLoop cX11_worstLoop 11 (some .int)) rmX11_worstLoop SX11_worstLoop := by
  refine Snd.of lX11_worstLoop (by decide +kernel) (fun _ => rfl) ?_
  intro Γ hC hnt hnm J hJ L a
  match L with
  | 0 => exact pX11_worstLoop_0 hC hnt J hJ a
  | 1 => exact pX11_worstLoop_1 hC hnt J hJ a
  | L + 2 => exact c_no
/-! SpiritWallModel.suspect()I -/
theorem dX11_suspect_0 : decode cX11_suspect 0 = .ok (.aload_n 0, 1) := by decide +kernel
theorem dX11_suspect_1 : decode cX11_suspect 1 = .ok (.iconst 0, 1) := by decide +kernel
theorem dX11_suspect_2 : decode cX11_suspect 2 = .ok (.putfield 67, 3) := by decide +kernel
theorem dX11_suspect_5 : decode cX11_suspect 5 = .ok (.aload_n 0, 1) := by decide +kernel
theorem dX11_suspect_6 : decode cX11_suspect 6 = .ok (.invokevirtual 244, 3) := by decide +kernel
theorem dX11_suspect_9 : decode cX11_suspect 9 = .ok (.aload_n 0, 1) := by decide +kernel
theorem dX11_suspect_10 : decode cX11_suspect 10 = .ok (.invokevirtual 266, 3) := by decide +kernel
theorem dX11_suspect_13 : decode cX11_suspect 13 = .ok (.aload_n 0, 1) := by decide +kernel
theorem dX11_suspect_14 : decode cX11_suspect 14 = .ok (.invokevirtual 235, 3) := by decide +kernel
theorem dX11_suspect_17 : decode cX11_suspect 17 = .ok (.if_icmp .ne 5, 3) := by decide +kernel
theorem dX11_suspect_20 : decode cX11_suspect 20 = .ok (.iconst (-1), 1) := by decide +kernel
theorem dX11_suspect_21 : decode cX11_suspect 21 = .ok (.ireturn, 1) := by decide +kernel
theorem dX11_suspect_22 : decode cX11_suspect 22 = .ok (.iconst (-1), 1) := by decide +kernel
theorem dX11_suspect_23 : decode cX11_suspect 23 = .ok (.istore_n 1, 1) := by decide +kernel
theorem dX11_suspect_24 : decode cX11_suspect 24 = .ok (.iconst 0, 1) := by decide +kernel
theorem dX11_suspect_25 : decode cX11_suspect 25 = .ok (.istore_n 2, 1) := by decide +kernel
theorem dX11_suspect_26 : decode cX11_suspect 26 = .ok (.iconst 0, 1) := by decide +kernel
theorem dX11_suspect_27 : decode cX11_suspect 27 = .ok (.istore_n 3, 1) := by decide +kernel
theorem dX11_suspect_28 : decode cX11_suspect 28 = .ok (.iconst 0, 1) := by decide +kernel
theorem dX11_suspect_29 : decode cX11_suspect 29 = .ok (.istore 4, 2) := by decide +kernel
theorem dX11_suspect_31 : decode cX11_suspect 31 = .ok (.iload 4, 2) := by decide +kernel
theorem dX11_suspect_33 : decode cX11_suspect 33 = .ok (.sipush 144, 3) := by decide +kernel
theorem dX11_suspect_36 : decode cX11_suspect 36 = .ok (.if_icmp .ge 78, 3) := by decide +kernel
theorem dX11_suspect_39 : decode cX11_suspect 39 = .ok (.aload_n 0, 1) := by decide +kernel
theorem dX11_suspect_40 : decode cX11_suspect 40 = .ok (.getfield 31, 3) := by decide +kernel
theorem dX11_suspect_43 : decode cX11_suspect 43 = .ok (.iload 4, 2) := by decide +kernel
theorem dX11_suspect_45 : decode cX11_suspect 45 = .ok (.iaload, 1) := by decide +kernel
theorem dX11_suspect_46 : decode cX11_suspect 46 = .ok (.ifCond .ne 6, 3) := by decide +kernel
theorem dX11_suspect_49 : decode cX11_suspect 49 = .ok (.goto 59, 3) := by decide +kernel
theorem dX11_suspect_52 : decode cX11_suspect 52 = .ok (.aload_n 0, 1) := by decide +kernel
theorem dX11_suspect_53 : decode cX11_suspect 53 = .ok (.iload 4, 2) := by decide +kernel
theorem dX11_suspect_55 : decode cX11_suspect 55 = .ok (.iconst 1, 1) := by decide +kernel
theorem dX11_suspect_56 : decode cX11_suspect 56 = .ok (.invokevirtual 306, 3) := by decide +kernel
theorem dX11_suspect_59 : decode cX11_suspect 59 = .ok (.istore 5, 2) := by decide +kernel
theorem dX11_suspect_61 : decode cX11_suspect 61 = .ok (.aload_n 0, 1) := by decide +kernel
theorem dX11_suspect_62 : decode cX11_suspect 62 = .ok (.iload 4, 2) := by decide +kernel
theorem dX11_suspect_64 : decode cX11_suspect 64 = .ok (.iconst 0, 1) := by decide +kernel
theorem dX11_suspect_65 : decode cX11_suspect 65 = .ok (.invokevirtual 306, 3) := by decide +kernel
theorem dX11_suspect_68 : decode cX11_suspect 68 = .ok (.iload 5, 2) := by decide +kernel
theorem dX11_suspect_70 : decode cX11_suspect 70 = .ok (.isub, 1) := by decide +kernel
theorem dX11_suspect_71 : decode cX11_suspect 71 = .ok (.istore 6, 2) := by decide +kernel
theorem dX11_suspect_73 : decode cX11_suspect 73 = .ok (.iload_n 1, 1) := by decide +kernel
theorem dX11_suspect_74 : decode cX11_suspect 74 = .ok (.iconst (-1), 1) := by decide +kernel
theorem dX11_suspect_75 : decode cX11_suspect 75 = .ok (.if_icmp .eq 24, 3) := by decide +kernel
theorem dX11_suspect_78 : decode cX11_suspect 78 = .ok (.iload 5, 2) := by decide +kernel
theorem dX11_suspect_80 : decode cX11_suspect 80 = .ok (.iload_n 2, 1) := by decide +kernel
theorem dX11_suspect_81 : decode cX11_suspect 81 = .ok (.if_icmp .lt 27, 3) := by decide +kernel
theorem dX11_suspect_84 : decode cX11_suspect 84 = .ok (.iload 5, 2) := by decide +kernel
theorem dX11_suspect_86 : decode cX11_suspect 86 = .ok (.iload_n 2, 1) := by decide +kernel
theorem dX11_suspect_87 : decode cX11_suspect 87 = .ok (.if_icmp .ne 12, 3) := by decide +kernel
theorem dX11_suspect_90 : decode cX11_suspect 90 = .ok (.iload 6, 2) := by decide +kernel
theorem dX11_suspect_92 : decode cX11_suspect 92 = .ok (.iload_n 3, 1) := by decide +kernel
theorem dX11_suspect_93 : decode cX11_suspect 93 = .ok (.if_icmp .lt 6, 3) := by decide +kernel
theorem dX11_suspect_96 : decode cX11_suspect 96 = .ok (.goto 12, 3) := by decide +kernel
theorem dX11_suspect_99 : decode cX11_suspect 99 = .ok (.iload 4, 2) := by decide +kernel
theorem dX11_suspect_101 : decode cX11_suspect 101 = .ok (.istore_n 1, 1) := by decide +kernel
theorem dX11_suspect_102 : decode cX11_suspect 102 = .ok (.iload 5, 2) := by decide +kernel
theorem dX11_suspect_104 : decode cX11_suspect 104 = .ok (.istore_n 2, 1) := by decide +kernel
theorem dX11_suspect_105 : decode cX11_suspect 105 = .ok (.iload 6, 2) := by decide +kernel
theorem dX11_suspect_107 : decode cX11_suspect 107 = .ok (.istore_n 3, 1) := by decide +kernel
theorem dX11_suspect_108 : decode cX11_suspect 108 = .ok (.iinc 4 1, 3) := by decide +kernel
theorem dX11_suspect_111 : decode cX11_suspect 111 = .ok (.goto (-80), 3) := by decide +kernel
theorem dX11_suspect_114 : decode cX11_suspect 114 = .ok (.iload_n 1, 1) := by decide +kernel
theorem dX11_suspect_115 : decode cX11_suspect 115 = .ok (.ireturn, 1) := by decide +kernel
def rmX11_suspect : Room := rmk 27 0 0 643
theorem nX11_suspect : nameOk yX11_suspect 0 = true := by decide +kernel
def bX11_suspect_0 (J : JT) : List Value → Sem
  | [.ref x0] =>
    pI 11 0 x0 0 <|
    ob 11 x0 (cV SX11_reckons [.ref x0] <|
    ob 11 x0 (cI SX11_closing [.ref x0] fun v1 =>
    ob 11 x0 (cI SX11_loops [.ref x0] fun v2 =>
    br (v1 = v2)
    (rI (-1))
    (J 1 [.ref x0, .int (-1), .int 0, .int 0, .int 0]))))
  | _ => no
def bX11_suspect_1 (J : JT) : List Value → Sem
  | [.ref x0, .int x1, .int x2, .int x3, .int x4] =>
    br ((144 : Int32) ≤ x4)
    (rI x1)
    (gR 11 11 x0 fun r1 =>
    aI r1 x4 fun v2 =>
    br (v2 = 0)
    (J 1 [.ref x0, .int x1, .int x2, .int x3, .int (x4 + 1)])
    (ob 11 x0 (cI SX11_loopsWith [.ref x0, .int x4, .int 1] fun v3 =>
    ob 11 x0 (cI SX11_loopsWith [.ref x0, .int x4, .int 0] fun v4 =>
    lI (v4 - v3) fun y6_5 =>
    br (x1 = ((-1) : Int32))
    (J 2 [.ref x0, .int x4, .int v3, .int y6_5])
    (br (v3 < x2)
    (J 1 [.ref x0, .int x1, .int x2, .int x3, .int (x4 + 1)])
    (br (v3 = x2)
    (br (y6_5 < x3)
    (J 2 [.ref x0, .int x4, .int v3, .int y6_5])
    (J 1 [.ref x0, .int x1, .int x2, .int x3, .int (x4 + 1)]))
    (J 2 [.ref x0, .int x4, .int v3, .int y6_5])))))))
  | _ => no
def bX11_suspect_2 (J : JT) : List Value → Sem
  | [.ref x0, .int x4, .int x5, .int x6] =>
    J 1 [.ref x0, .int x4, .int x5, .int x6, .int (x4 + 1)]
  | _ => no
def bX11_suspect (J : JT) : JT := fun L a => match L with
  | 0 => bX11_suspect_0 J a
  | 1 => bX11_suspect_1 J a
  | 2 => bX11_suspect_2 J a
  | _ => no
def SX11_suspect : ST := mk 7 bX11_suspect
def lX11_suspect (L : Nat) (a : List Value) : Nat × Nat × Nat × List (Nat × Value) × List Value := match L with
  | 0 => (0, 0, 0, lv_args 0 a, [])
  | 1 => (0, 0, 31, List.zip [0, 1, 2, 3, 4] a, [])
  | 2 => (0, 0, 99, List.zip [0, 4, 5, 6] a, [])
  | _ => (0, 0, 0, [], [])
theorem pX11_suspect_0 {Γ : CT} (hC : Ctx Γ "SpiritWallModel" cX11_suspect 7 (some .int) rmX11_suspect) (hnt : NT Γ) (J : JT) (hJ : ∀ L a, Cor Γ 7 (lX11_suspect L a).1 (lX11_suspect L a).2.1 (lX11_suspect L a).2.2.1 (lX11_suspect L a).2.2.2.1 (lX11_suspect L a).2.2.2.2 (J L a)) (a : List Value) : Cor Γ 7 0 0 0 (lv_args 0 a) [] (bX11_suspect_0 J a) := by
  unfold bX11_suspect_0
  split
  · rename_i x0
    refine c_sub [0] rfl (loc' := [(0, .ref x0)]) ?_
    refine q_aload_n hC 0 dX11_suspect_0 rfl rfl ?_
    refine q_iconst hC dX11_suspect_1 rfl ?_
    refine q_putI hC (by decide) (by decide) rfl rfl w_833 dX11_suspect_2 ?_
    refine q_aload_n hC 0 dX11_suspect_5 rfl rfl ?_
    refine q_cVV hC hnt (stk := []) (as := []) sX11_reckons (ci := 11) (by decide) rfl nX11_reckons rfl w_1016 w_1018 w_1019 w_830 w_1017 (Nat.le_of_ble_eq_true rfl) dX11_suspect_6 rfl ?_
    refine q_aload_n hC 0 dX11_suspect_9 rfl rfl ?_
    refine q_cVI hC hnt (stk := []) (as := []) sX11_closing (ci := 11) (by decide) rfl nX11_closing rfl w_1044 w_1046 w_1047 w_830 w_1045 (Nat.le_of_ble_eq_true rfl) dX11_suspect_10 rfl (fun v1 => ?_)
    refine q_aload_n hC 0 dX11_suspect_13 rfl rfl ?_
    refine q_cVI hC hnt (stk := [.int v1]) (as := []) sX11_loops (ci := 11) (by decide) rfl nX11_loops rfl w_1004 w_1006 w_1007 w_830 w_1005 (Nat.le_of_ble_eq_true rfl) dX11_suspect_14 rfl (fun v2 => ?_)
    refine q_ic_ne hC 22 dX11_suspect_17 rfl ?_ ?_
    · refine q_iconst hC dX11_suspect_22 rfl ?_
      refine q_istore_nA hC (loc' := [(1, .int (-1)), (0, .ref x0)]) dX11_suspect_23 rfl (Nat.le_of_ble_eq_true rfl) rfl ?_
      refine q_iconst hC dX11_suspect_24 rfl ?_
      refine q_istore_nA hC (loc' := [(2, .int 0), (1, .int (-1)), (0, .ref x0)]) dX11_suspect_25 rfl (Nat.le_of_ble_eq_true rfl) rfl ?_
      refine q_iconst hC dX11_suspect_26 rfl ?_
      refine q_istore_nA hC (loc' := [(3, .int 0), (2, .int 0), (1, .int (-1)), (0, .ref x0)]) dX11_suspect_27 rfl (Nat.le_of_ble_eq_true rfl) rfl ?_
      refine q_iconst hC dX11_suspect_28 rfl ?_
      refine q_istoreA hC (loc' := [(4, .int 0), (3, .int 0), (2, .int 0), (1, .int (-1)), (0, .ref x0)]) dX11_suspect_29 (Nat.le_of_ble_eq_true rfl) rfl ?_
      exact c_sub [4, 3, 2, 1, 0] rfl (hJ 1 [.ref x0, .int (-1), .int 0, .int 0, .int 0])
    · refine q_iconst hC dX11_suspect_20 rfl ?_
      exact q_iret hC dX11_suspect_21 (Nat.le_of_ble_eq_true rfl) (Nat.le_of_ble_eq_true rfl)
  · exact c_no
theorem pX11_suspect_1 {Γ : CT} (hC : Ctx Γ "SpiritWallModel" cX11_suspect 7 (some .int) rmX11_suspect) (hnt : NT Γ) (J : JT) (hJ : ∀ L a, Cor Γ 7 (lX11_suspect L a).1 (lX11_suspect L a).2.1 (lX11_suspect L a).2.2.1 (lX11_suspect L a).2.2.2.1 (lX11_suspect L a).2.2.2.2 (J L a)) (a : List Value) : Cor Γ 7 0 0 31 (List.zip [0, 1, 2, 3, 4] a) [] (bX11_suspect_1 J a) := by
  unfold bX11_suspect_1
  split
  · rename_i x0 x1 x2 x3 x4
    refine c_sub [0, 1, 2, 3, 4] rfl (loc' := [(0, .ref x0), (1, .int x1), (2, .int x2), (3, .int x3), (4, .int x4)]) ?_
    refine q_iload hC 4 dX11_suspect_31 rfl ?_
    refine q_sipush hC (v := 144) dX11_suspect_33 rfl ?_
    refine q_ic_ge hC 114 dX11_suspect_36 rfl ?_ ?_
    · refine q_iload_n hC 1 dX11_suspect_114 rfl rfl ?_
      exact q_iret hC dX11_suspect_115 (Nat.le_of_ble_eq_true rfl) (Nat.le_of_ble_eq_true rfl)
    · refine q_aload_n hC 0 dX11_suspect_39 rfl rfl ?_
      refine q_getR hC (by decide) (by decide) rfl w_816 dX11_suspect_40 (fun r1 => ?_)
      refine q_iload hC 4 dX11_suspect_43 rfl ?_
      refine q_iald hC dX11_suspect_45 (fun v2 => ?_)
      refine q_if_ne hC 52 dX11_suspect_46 rfl ?_ ?_
      · refine q_aload_n hC 0 dX11_suspect_52 rfl rfl ?_
        refine q_iload hC 4 dX11_suspect_53 rfl ?_
        refine q_iconst hC dX11_suspect_55 rfl ?_
        refine q_cVI hC hnt (stk := []) (as := [.int x4, .int 1]) sX11_loopsWith (ci := 11) (by decide) rfl nX11_loopsWith rfl w_1091 w_1093 w_1094 w_830 w_1092 (Nat.le_of_ble_eq_true rfl) dX11_suspect_56 rfl (fun v3 => ?_)
        refine q_istoreA hC (loc' := [(5, .int v3), (0, .ref x0), (1, .int x1), (2, .int x2), (3, .int x3), (4, .int x4)]) dX11_suspect_59 (Nat.le_of_ble_eq_true rfl) rfl ?_
        refine q_aload_n hC 1 dX11_suspect_61 rfl rfl ?_
        refine q_iload hC 5 dX11_suspect_62 rfl ?_
        refine q_iconst hC dX11_suspect_64 rfl ?_
        refine q_cVI hC hnt (stk := []) (as := [.int x4, .int 0]) sX11_loopsWith (ci := 11) (by decide) rfl nX11_loopsWith rfl w_1091 w_1093 w_1094 w_830 w_1092 (Nat.le_of_ble_eq_true rfl) dX11_suspect_65 rfl (fun v4 => ?_)
        refine q_iload hC 0 dX11_suspect_68 rfl ?_
        refine q_isub hC dX11_suspect_70 ?_
        refine q_istore hC (fun y6_5 => [(6, .int y6_5), (5, .int v3), (0, .ref x0), (1, .int x1), (2, .int x2), (3, .int x3), (4, .int x4)]) dX11_suspect_71 (Nat.le_of_ble_eq_true rfl) (fun _ => rfl) (fun y6_5 => ?_)
        refine q_iload_n hC 3 dX11_suspect_73 rfl rfl ?_
        refine q_iconst hC dX11_suspect_74 rfl ?_
        refine q_ic_eq hC 99 dX11_suspect_75 rfl ?_ ?_
        · exact c_sub [2, 6, 1, 0] rfl (hJ 2 [.ref x0, .int x4, .int v3, .int y6_5])
        · refine q_iload hC 1 dX11_suspect_78 rfl ?_
          refine q_iload_n hC 4 dX11_suspect_80 rfl rfl ?_
          refine q_ic_lt hC 108 dX11_suspect_81 rfl ?_ ?_
          · refine q_iincA hC (loc' := [(4, .int (x4 + 1)), (6, .int y6_5), (5, .int v3), (0, .ref x0), (1, .int x1), (2, .int x2), (3, .int x3)]) 6 1 dX11_suspect_108 rfl rfl (Nat.le_of_ble_eq_true rfl) rfl ?_
            refine q_goto hC 31 dX11_suspect_111 rfl ?_
            exact c_sub [3, 4, 5, 6, 0] rfl (hJ 1 [.ref x0, .int x1, .int x2, .int x3, .int (x4 + 1)])
          · refine q_iload hC 1 dX11_suspect_84 rfl ?_
            refine q_iload_n hC 4 dX11_suspect_86 rfl rfl ?_
            refine q_ic_ne hC 99 dX11_suspect_87 rfl ?_ ?_
            · exact c_sub [2, 6, 1, 0] rfl (hJ 2 [.ref x0, .int x4, .int v3, .int y6_5])
            · refine q_iload hC 0 dX11_suspect_90 rfl ?_
              refine q_iload_n hC 5 dX11_suspect_92 rfl rfl ?_
              refine q_ic_lt hC 99 dX11_suspect_93 rfl ?_ ?_
              · exact c_sub [2, 6, 1, 0] rfl (hJ 2 [.ref x0, .int x4, .int v3, .int y6_5])
              · refine q_goto hC 108 dX11_suspect_96 rfl ?_
                refine q_iincA hC (loc' := [(4, .int (x4 + 1)), (6, .int y6_5), (5, .int v3), (0, .ref x0), (1, .int x1), (2, .int x2), (3, .int x3)]) 6 1 dX11_suspect_108 rfl rfl (Nat.le_of_ble_eq_true rfl) rfl ?_
                refine q_goto hC 31 dX11_suspect_111 rfl ?_
                exact c_sub [3, 4, 5, 6, 0] rfl (hJ 1 [.ref x0, .int x1, .int x2, .int x3, .int (x4 + 1)])
      · refine q_goto hC 108 dX11_suspect_49 rfl ?_
        refine q_iincA hC (loc' := [(4, .int (x4 + 1)), (0, .ref x0), (1, .int x1), (2, .int x2), (3, .int x3)]) 4 1 dX11_suspect_108 rfl rfl (Nat.le_of_ble_eq_true rfl) rfl ?_
        refine q_goto hC 31 dX11_suspect_111 rfl ?_
        exact c_sub [1, 2, 3, 4, 0] rfl (hJ 1 [.ref x0, .int x1, .int x2, .int x3, .int (x4 + 1)])
  · exact c_no
theorem pX11_suspect_2 {Γ : CT} (hC : Ctx Γ "SpiritWallModel" cX11_suspect 7 (some .int) rmX11_suspect) (hnt : NT Γ) (J : JT) (hJ : ∀ L a, Cor Γ 7 (lX11_suspect L a).1 (lX11_suspect L a).2.1 (lX11_suspect L a).2.2.1 (lX11_suspect L a).2.2.2.1 (lX11_suspect L a).2.2.2.2 (J L a)) (a : List Value) : Cor Γ 7 0 0 99 (List.zip [0, 4, 5, 6] a) [] (bX11_suspect_2 J a) := by
  unfold bX11_suspect_2
  split
  · rename_i x0 x4 x5 x6
    refine c_sub [0, 1, 2, 3] rfl (loc' := [(0, .ref x0), (4, .int x4), (5, .int x5), (6, .int x6)]) ?_
    refine q_iload hC 1 dX11_suspect_99 rfl ?_
    refine q_istore_nA hC (loc' := [(1, .int x4), (0, .ref x0), (4, .int x4), (5, .int x5), (6, .int x6)]) dX11_suspect_101 rfl (Nat.le_of_ble_eq_true rfl) rfl ?_
    refine q_iload hC 3 dX11_suspect_102 rfl ?_
    refine q_istore_nA hC (loc' := [(2, .int x5), (1, .int x4), (0, .ref x0), (4, .int x4), (5, .int x5), (6, .int x6)]) dX11_suspect_104 rfl (Nat.le_of_ble_eq_true rfl) rfl ?_
    refine q_iload hC 5 dX11_suspect_105 rfl ?_
    refine q_istore_nA hC (loc' := [(3, .int x6), (2, .int x5), (1, .int x4), (0, .ref x0), (4, .int x4), (5, .int x5), (6, .int x6)]) dX11_suspect_107 rfl (Nat.le_of_ble_eq_true rfl) rfl ?_
    refine q_iincA hC (loc' := [(4, .int (x4 + 1)), (3, .int x6), (2, .int x5), (1, .int x4), (0, .ref x0), (5, .int x5), (6, .int x6)]) 4 1 dX11_suspect_108 rfl rfl (Nat.le_of_ble_eq_true rfl) rfl ?_
    refine q_goto hC 31 dX11_suspect_111 rfl ?_
    exact c_sub [4, 3, 2, 1, 0] rfl (hJ 1 [.ref x0, .int x4, .int x5, .int x6, .int (x4 + 1)])
  · exact c_no
theorem sX11_suspect : Snd yX11_suspect (.code yX11_suspect cX11_suspect 7 (some .int)) rmX11_suspect SX11_suspect := by
  refine Snd.of lX11_suspect (by decide +kernel) (fun _ => rfl) ?_
  intro Γ hC hnt hnm J hJ L a
  match L with
  | 0 => exact pX11_suspect_0 hC hnt J hJ a
  | 1 => exact pX11_suspect_1 hC hnt J hJ a
  | 2 => exact pX11_suspect_2 hC hnt J hJ a
  | L + 3 => exact c_no
/-! SpiritWallModel.outlier()I -/
theorem dX11_outlier_0 : decode cX11_outlier 0 = .ok (.aload_n 0, 1) := by decide +kernel
theorem dX11_outlier_1 : decode cX11_outlier 1 = .ok (.iconst 0, 1) := by decide +kernel
theorem dX11_outlier_2 : decode cX11_outlier 2 = .ok (.putfield 67, 3) := by decide +kernel
theorem dX11_outlier_5 : decode cX11_outlier 5 = .ok (.aload_n 0, 1) := by decide +kernel
theorem dX11_outlier_6 : decode cX11_outlier 6 = .ok (.invokevirtual 244, 3) := by decide +kernel
theorem dX11_outlier_9 : decode cX11_outlier 9 = .ok (.iconst (-1), 1) := by decide +kernel
theorem dX11_outlier_10 : decode cX11_outlier 10 = .ok (.istore_n 1, 1) := by decide +kernel
theorem dX11_outlier_11 : decode cX11_outlier 11 = .ok (.iconst (-1), 1) := by decide +kernel
theorem dX11_outlier_12 : decode cX11_outlier 12 = .ok (.istore_n 2, 1) := by decide +kernel
theorem dX11_outlier_13 : decode cX11_outlier 13 = .ok (.iconst 0, 1) := by decide +kernel
theorem dX11_outlier_14 : decode cX11_outlier 14 = .ok (.istore_n 3, 1) := by decide +kernel
theorem dX11_outlier_15 : decode cX11_outlier 15 = .ok (.iload_n 3, 1) := by decide +kernel
theorem dX11_outlier_16 : decode cX11_outlier 16 = .ok (.aload_n 0, 1) := by decide +kernel
theorem dX11_outlier_17 : decode cX11_outlier 17 = .ok (.invokevirtual 97, 3) := by decide +kernel
theorem dX11_outlier_20 : decode cX11_outlier 20 = .ok (.if_icmp .ge 75, 3) := by decide +kernel
theorem dX11_outlier_23 : decode cX11_outlier 23 = .ok (.aload_n 0, 1) := by decide +kernel
theorem dX11_outlier_24 : decode cX11_outlier 24 = .ok (.iload_n 3, 1) := by decide +kernel
theorem dX11_outlier_25 : decode cX11_outlier 25 = .ok (.invokevirtual 141, 3) := by decide +kernel
theorem dX11_outlier_28 : decode cX11_outlier 28 = .ok (.ifCond .eq 61, 3) := by decide +kernel
theorem dX11_outlier_31 : decode cX11_outlier 31 = .ok (.aload_n 0, 1) := by decide +kernel
theorem dX11_outlier_32 : decode cX11_outlier 32 = .ok (.getfield 31, 3) := by decide +kernel
theorem dX11_outlier_35 : decode cX11_outlier 35 = .ok (.aload_n 0, 1) := by decide +kernel
theorem dX11_outlier_36 : decode cX11_outlier 36 = .ok (.iload_n 3, 1) := by decide +kernel
theorem dX11_outlier_37 : decode cX11_outlier 37 = .ok (.invokevirtual 144, 3) := by decide +kernel
theorem dX11_outlier_40 : decode cX11_outlier 40 = .ok (.iaload, 1) := by decide +kernel
theorem dX11_outlier_41 : decode cX11_outlier 41 = .ok (.iconst 3, 1) := by decide +kernel
theorem dX11_outlier_42 : decode cX11_outlier 42 = .ok (.if_icmp .ge 6, 3) := by decide +kernel
theorem dX11_outlier_45 : decode cX11_outlier 45 = .ok (.goto 44, 3) := by decide +kernel
theorem dX11_outlier_48 : decode cX11_outlier 48 = .ok (.aload_n 0, 1) := by decide +kernel
theorem dX11_outlier_49 : decode cX11_outlier 49 = .ok (.iload_n 3, 1) := by decide +kernel
theorem dX11_outlier_50 : decode cX11_outlier 50 = .ok (.invokevirtual 167, 3) := by decide +kernel
theorem dX11_outlier_53 : decode cX11_outlier 53 = .ok (.aload_n 0, 1) := by decide +kernel
theorem dX11_outlier_54 : decode cX11_outlier 54 = .ok (.aload_n 0, 1) := by decide +kernel
theorem dX11_outlier_55 : decode cX11_outlier 55 = .ok (.iload_n 3, 1) := by decide +kernel
theorem dX11_outlier_56 : decode cX11_outlier 56 = .ok (.iconst 0, 1) := by decide +kernel
theorem dX11_outlier_57 : decode cX11_outlier 57 = .ok (.invokevirtual 100, 3) := by decide +kernel
theorem dX11_outlier_60 : decode cX11_outlier 60 = .ok (.aload_n 0, 1) := by decide +kernel
theorem dX11_outlier_61 : decode cX11_outlier 61 = .ok (.iload_n 3, 1) := by decide +kernel
theorem dX11_outlier_62 : decode cX11_outlier 62 = .ok (.iconst 1, 1) := by decide +kernel
theorem dX11_outlier_63 : decode cX11_outlier 63 = .ok (.invokevirtual 100, 3) := by decide +kernel
theorem dX11_outlier_66 : decode cX11_outlier 66 = .ok (.invokevirtual 199, 3) := by decide +kernel
theorem dX11_outlier_69 : decode cX11_outlier 69 = .ok (.isub, 1) := by decide +kernel
theorem dX11_outlier_70 : decode cX11_outlier 70 = .ok (.invokestatic 107, 3) := by decide +kernel
theorem dX11_outlier_73 : decode cX11_outlier 73 = .ok (.istore 4, 2) := by decide +kernel
theorem dX11_outlier_75 : decode cX11_outlier 75 = .ok (.iload 4, 2) := by decide +kernel
theorem dX11_outlier_77 : decode cX11_outlier 77 = .ok (.iload_n 2, 1) := by decide +kernel
theorem dX11_outlier_78 : decode cX11_outlier 78 = .ok (.if_icmp .gt 6, 3) := by decide +kernel
theorem dX11_outlier_81 : decode cX11_outlier 81 = .ok (.goto 8, 3) := by decide +kernel
theorem dX11_outlier_84 : decode cX11_outlier 84 = .ok (.iload_n 3, 1) := by decide +kernel
theorem dX11_outlier_85 : decode cX11_outlier 85 = .ok (.istore_n 1, 1) := by decide +kernel
theorem dX11_outlier_86 : decode cX11_outlier 86 = .ok (.iload 4, 2) := by decide +kernel
theorem dX11_outlier_88 : decode cX11_outlier 88 = .ok (.istore_n 2, 1) := by decide +kernel
theorem dX11_outlier_89 : decode cX11_outlier 89 = .ok (.iinc 3 1, 3) := by decide +kernel
theorem dX11_outlier_92 : decode cX11_outlier 92 = .ok (.goto (-77), 3) := by decide +kernel
theorem dX11_outlier_95 : decode cX11_outlier 95 = .ok (.iload_n 1, 1) := by decide +kernel
theorem dX11_outlier_96 : decode cX11_outlier 96 = .ok (.ireturn, 1) := by decide +kernel
def rmX11_outlier : Room := rmk 15 0 0 357
theorem nX11_outlier : nameOk yX11_outlier 0 = true := by decide +kernel
def bX11_outlier_0 (J : JT) : List Value → Sem
  | [.ref x0] =>
    pI 11 0 x0 0 <|
    ob 11 x0 (cV SX11_reckons [.ref x0] <|
    J 1 [.ref x0, .int (-1), .int (-1), .int 0])
  | _ => no
def bX11_outlier_1 (J : JT) : List Value → Sem
  | [.ref x0, .int x1, .int x2, .int x3] =>
    ob 11 x0 (cI SX11_sights [.ref x0] fun v1 =>
    br (v1 ≤ x3)
    (rI x1)
    (ob 11 x0 (cI SX11_counts [.ref x0, .int x3] fun v2 =>
    br (v2 = 0)
    (J 1 [.ref x0, .int x1, .int x2, .int (x3 + 1)])
    (gR 11 11 x0 fun r3 =>
    ob 11 x0 (cI SX11_pairOfSight [.ref x0, .int x3] fun v4 =>
    aI r3 v4 fun v5 =>
    br ((3 : Int32) ≤ v5)
    (ob 11 x0 (cI SX11_riseOf [.ref x0, .int x3] fun v6 =>
    ob 11 x0 (cI SX11_ofSight [.ref x0, .int x3, .int 0] fun v7 =>
    ob 11 x0 (cI SX11_ofSight [.ref x0, .int x3, .int 1] fun v8 =>
    ob 11 x0 (cI SX11_riseFrom [.ref x0, .int v7, .int v8] fun v9 =>
    cI SJ9_abs_0f7a4 [.int (v6 - v9)] fun v10 =>
    br (x2 < v10)
    (J 1 [.ref x0, .int x3, .int v10, .int (x3 + 1)])
    (J 1 [.ref x0, .int x1, .int x2, .int (x3 + 1)]))))))
    (J 1 [.ref x0, .int x1, .int x2, .int (x3 + 1)]))))))
  | _ => no
def bX11_outlier (J : JT) : JT := fun L a => match L with
  | 0 => bX11_outlier_0 J a
  | 1 => bX11_outlier_1 J a
  | _ => no
def SX11_outlier : ST := mk 5 bX11_outlier
def lX11_outlier (L : Nat) (a : List Value) : Nat × Nat × Nat × List (Nat × Value) × List Value := match L with
  | 0 => (0, 0, 0, lv_args 0 a, [])
  | 1 => (0, 0, 15, List.zip [0, 1, 2, 3] a, [])
  | _ => (0, 0, 0, [], [])
theorem pX11_outlier_0 {Γ : CT} (hC : Ctx Γ "SpiritWallModel" cX11_outlier 5 (some .int) rmX11_outlier) (hnt : NT Γ) (J : JT) (hJ : ∀ L a, Cor Γ 5 (lX11_outlier L a).1 (lX11_outlier L a).2.1 (lX11_outlier L a).2.2.1 (lX11_outlier L a).2.2.2.1 (lX11_outlier L a).2.2.2.2 (J L a)) (a : List Value) : Cor Γ 5 0 0 0 (lv_args 0 a) [] (bX11_outlier_0 J a) := by
  unfold bX11_outlier_0
  split
  · rename_i x0
    refine c_sub [0] rfl (loc' := [(0, .ref x0)]) ?_
    refine q_aload_n hC 0 dX11_outlier_0 rfl rfl ?_
    refine q_iconst hC dX11_outlier_1 rfl ?_
    refine q_putI hC (by decide) (by decide) rfl rfl w_833 dX11_outlier_2 ?_
    refine q_aload_n hC 0 dX11_outlier_5 rfl rfl ?_
    refine q_cVV hC hnt (stk := []) (as := []) sX11_reckons (ci := 11) (by decide) rfl nX11_reckons rfl w_1016 w_1018 w_1019 w_830 w_1017 (Nat.le_of_ble_eq_true rfl) dX11_outlier_6 rfl ?_
    refine q_iconst hC dX11_outlier_9 rfl ?_
    refine q_istore_nA hC (loc' := [(1, .int (-1)), (0, .ref x0)]) dX11_outlier_10 rfl (Nat.le_of_ble_eq_true rfl) rfl ?_
    refine q_iconst hC dX11_outlier_11 rfl ?_
    refine q_istore_nA hC (loc' := [(2, .int (-1)), (1, .int (-1)), (0, .ref x0)]) dX11_outlier_12 rfl (Nat.le_of_ble_eq_true rfl) rfl ?_
    refine q_iconst hC dX11_outlier_13 rfl ?_
    refine q_istore_nA hC (loc' := [(3, .int 0), (2, .int (-1)), (1, .int (-1)), (0, .ref x0)]) dX11_outlier_14 rfl (Nat.le_of_ble_eq_true rfl) rfl ?_
    exact c_sub [3, 2, 1, 0] rfl (hJ 1 [.ref x0, .int (-1), .int (-1), .int 0])
  · exact c_no
theorem pX11_outlier_1 {Γ : CT} (hC : Ctx Γ "SpiritWallModel" cX11_outlier 5 (some .int) rmX11_outlier) (hnt : NT Γ) (J : JT) (hJ : ∀ L a, Cor Γ 5 (lX11_outlier L a).1 (lX11_outlier L a).2.1 (lX11_outlier L a).2.2.1 (lX11_outlier L a).2.2.2.1 (lX11_outlier L a).2.2.2.2 (J L a)) (a : List Value) : Cor Γ 5 0 0 15 (List.zip [0, 1, 2, 3] a) [] (bX11_outlier_1 J a) := by
  unfold bX11_outlier_1
  split
  · rename_i x0 x1 x2 x3
    refine c_sub [0, 1, 2, 3] rfl (loc' := [(0, .ref x0), (1, .int x1), (2, .int x2), (3, .int x3)]) ?_
    refine q_iload_n hC 3 dX11_outlier_15 rfl rfl ?_
    refine q_aload_n hC 0 dX11_outlier_16 rfl rfl ?_
    refine q_cVI hC hnt (stk := [.int x3]) (as := []) sX11_sights (ci := 11) (by decide) rfl nX11_sights rfl w_854 w_856 w_857 w_830 w_855 (Nat.le_of_ble_eq_true rfl) dX11_outlier_17 rfl (fun v1 => ?_)
    refine q_ic_ge hC 95 dX11_outlier_20 rfl ?_ ?_
    · refine q_iload_n hC 1 dX11_outlier_95 rfl rfl ?_
      exact q_iret hC dX11_outlier_96 (Nat.le_of_ble_eq_true rfl) (Nat.le_of_ble_eq_true rfl)
    · refine q_aload_n hC 0 dX11_outlier_23 rfl rfl ?_
      refine q_iload_n hC 3 dX11_outlier_24 rfl rfl ?_
      refine q_cVI hC hnt (stk := []) (as := [.int x3]) sX11_counts (ci := 11) (by decide) rfl nX11_counts rfl w_895 w_897 w_898 w_830 w_896 (Nat.le_of_ble_eq_true rfl) dX11_outlier_25 rfl (fun v2 => ?_)
      refine q_if_eq hC 89 dX11_outlier_28 rfl ?_ ?_
      · refine q_iincA hC (loc' := [(3, .int (x3 + 1)), (0, .ref x0), (1, .int x1), (2, .int x2)]) 3 1 dX11_outlier_89 rfl rfl (Nat.le_of_ble_eq_true rfl) rfl ?_
        refine q_goto hC 15 dX11_outlier_92 rfl ?_
        exact c_sub [1, 2, 3, 0] rfl (hJ 1 [.ref x0, .int x1, .int x2, .int (x3 + 1)])
      · refine q_aload_n hC 0 dX11_outlier_31 rfl rfl ?_
        refine q_getR hC (by decide) (by decide) rfl w_816 dX11_outlier_32 (fun r3 => ?_)
        refine q_aload_n hC 0 dX11_outlier_35 rfl rfl ?_
        refine q_iload_n hC 3 dX11_outlier_36 rfl rfl ?_
        refine q_cVI hC hnt (stk := [.ref r3]) (as := [.int x3]) sX11_pairOfSight (ci := 11) (by decide) rfl nX11_pairOfSight rfl w_899 w_901 w_902 w_830 w_900 (Nat.le_of_ble_eq_true rfl) dX11_outlier_37 rfl (fun v4 => ?_)
        refine q_iald hC dX11_outlier_40 (fun v5 => ?_)
        refine q_iconst hC dX11_outlier_41 rfl ?_
        refine q_ic_ge hC 48 dX11_outlier_42 rfl ?_ ?_
        · refine q_aload_n hC 0 dX11_outlier_48 rfl rfl ?_
          refine q_iload_n hC 3 dX11_outlier_49 rfl rfl ?_
          refine q_cVI hC hnt (stk := []) (as := [.int x3]) sX11_riseOf (ci := 11) (by decide) rfl nX11_riseOf rfl w_924 w_926 w_927 w_830 w_925 (Nat.le_of_ble_eq_true rfl) dX11_outlier_50 rfl (fun v6 => ?_)
          refine q_aload_n hC 0 dX11_outlier_53 rfl rfl ?_
          refine q_aload_n hC 0 dX11_outlier_54 rfl rfl ?_
          refine q_iload_n hC 3 dX11_outlier_55 rfl rfl ?_
          refine q_iconst hC dX11_outlier_56 rfl ?_
          refine q_cVI hC hnt (stk := [.ref x0, .int v6]) (as := [.int x3, .int 0]) sX11_ofSight (ci := 11) (by decide) rfl nX11_ofSight rfl w_858 w_860 w_861 w_830 w_859 (Nat.le_of_ble_eq_true rfl) dX11_outlier_57 rfl (fun v7 => ?_)
          refine q_aload_n hC 0 dX11_outlier_60 rfl rfl ?_
          refine q_iload_n hC 3 dX11_outlier_61 rfl rfl ?_
          refine q_iconst hC dX11_outlier_62 rfl ?_
          refine q_cVI hC hnt (stk := [.int v7, .ref x0, .int v6]) (as := [.int x3, .int 1]) sX11_ofSight (ci := 11) (by decide) rfl nX11_ofSight rfl w_858 w_860 w_861 w_830 w_859 (Nat.le_of_ble_eq_true rfl) dX11_outlier_63 rfl (fun v8 => ?_)
          refine q_cVI hC hnt (stk := [.int v6]) (as := [.int v7, .int v8]) sX11_riseFrom (ci := 11) (by decide) rfl nX11_riseFrom rfl w_959 w_961 w_962 w_830 w_960 (Nat.le_of_ble_eq_true rfl) dX11_outlier_66 rfl (fun v9 => ?_)
          refine q_isub hC dX11_outlier_69 ?_
          refine q_cSI hC hnt (stk := []) (as := [.int (v6 - v9)]) sJ9_abs_0f7a4 nJ9_abs_0f7a4 rfl w_866 w_687 w_351 w_686 (Nat.le_of_ble_eq_true rfl) dX11_outlier_70 rfl (fun v10 => ?_)
          refine q_istoreA hC (loc' := [(4, .int v10), (0, .ref x0), (1, .int x1), (2, .int x2), (3, .int x3)]) dX11_outlier_73 (Nat.le_of_ble_eq_true rfl) rfl ?_
          refine q_iload hC 0 dX11_outlier_75 rfl ?_
          refine q_iload_n hC 3 dX11_outlier_77 rfl rfl ?_
          refine q_ic_gt hC 84 dX11_outlier_78 rfl ?_ ?_
          · refine q_iload_n hC 4 dX11_outlier_84 rfl rfl ?_
            refine q_istore_nA hC (loc' := [(1, .int x3), (4, .int v10), (0, .ref x0), (2, .int x2), (3, .int x3)]) dX11_outlier_85 rfl (Nat.le_of_ble_eq_true rfl) rfl ?_
            refine q_iload hC 1 dX11_outlier_86 rfl ?_
            refine q_istore_nA hC (loc' := [(2, .int v10), (1, .int x3), (4, .int v10), (0, .ref x0), (3, .int x3)]) dX11_outlier_88 rfl (Nat.le_of_ble_eq_true rfl) rfl ?_
            refine q_iincA hC (loc' := [(3, .int (x3 + 1)), (2, .int v10), (1, .int x3), (4, .int v10), (0, .ref x0)]) 4 1 dX11_outlier_89 rfl rfl (Nat.le_of_ble_eq_true rfl) rfl ?_
            refine q_goto hC 15 dX11_outlier_92 rfl ?_
            exact c_sub [4, 2, 1, 0] rfl (hJ 1 [.ref x0, .int x3, .int v10, .int (x3 + 1)])
          · refine q_goto hC 89 dX11_outlier_81 rfl ?_
            refine q_iincA hC (loc' := [(3, .int (x3 + 1)), (4, .int v10), (0, .ref x0), (1, .int x1), (2, .int x2)]) 4 1 dX11_outlier_89 rfl rfl (Nat.le_of_ble_eq_true rfl) rfl ?_
            refine q_goto hC 15 dX11_outlier_92 rfl ?_
            exact c_sub [2, 3, 4, 0] rfl (hJ 1 [.ref x0, .int x1, .int x2, .int (x3 + 1)])
        · refine q_goto hC 89 dX11_outlier_45 rfl ?_
          refine q_iincA hC (loc' := [(3, .int (x3 + 1)), (0, .ref x0), (1, .int x1), (2, .int x2)]) 3 1 dX11_outlier_89 rfl rfl (Nat.le_of_ble_eq_true rfl) rfl ?_
          refine q_goto hC 15 dX11_outlier_92 rfl ?_
          exact c_sub [1, 2, 3, 0] rfl (hJ 1 [.ref x0, .int x1, .int x2, .int (x3 + 1)])
  · exact c_no
theorem sX11_outlier : Snd yX11_outlier (.code yX11_outlier cX11_outlier 5 (some .int)) rmX11_outlier SX11_outlier := by
  refine Snd.of lX11_outlier (by decide +kernel) (fun _ => rfl) ?_
  intro Γ hC hnt hnm J hJ L a
  match L with
  | 0 => exact pX11_outlier_0 hC hnt J hJ a
  | 1 => exact pX11_outlier_1 hC hnt J hJ a
  | L + 2 => exact c_no
/-! SpiritWallModel.misfit()J -/
theorem dX11_misfit_0 : decode cX11_misfit 0 = .ok (.aload_n 0, 1) := by decide +kernel
theorem dX11_misfit_1 : decode cX11_misfit 1 = .ok (.iconst 0, 1) := by decide +kernel
theorem dX11_misfit_2 : decode cX11_misfit 2 = .ok (.putfield 67, 3) := by decide +kernel
theorem dX11_misfit_5 : decode cX11_misfit 5 = .ok (.aload_n 0, 1) := by decide +kernel
theorem dX11_misfit_6 : decode cX11_misfit 6 = .ok (.invokevirtual 321, 3) := by decide +kernel
theorem dX11_misfit_9 : decode cX11_misfit 9 = .ok (.lreturn, 1) := by decide +kernel
def rmX11_misfit : Room := rmk 16 0 0 383
theorem nX11_misfit : nameOk yX11_misfit 0 = true := by decide +kernel
def bX11_misfit_0 (J : JT) : List Value → Sem
  | [.ref x0] =>
    pI 11 0 x0 0 <|
    ob 11 x0 (cJ SX11_misfitNow [.ref x0] fun v1 =>
    rJ v1)
  | _ => no
def bX11_misfit (J : JT) : JT := fun L a => match L with
  | 0 => bX11_misfit_0 J a
  | _ => no
def SX11_misfit : ST := mk 1 bX11_misfit
def lX11_misfit (L : Nat) (a : List Value) : Nat × Nat × Nat × List (Nat × Value) × List Value := match L with
  | 0 => (0, 0, 0, lv_args 0 a, [])
  | _ => (0, 0, 0, [], [])
theorem pX11_misfit_0 {Γ : CT} (hC : Ctx Γ "SpiritWallModel" cX11_misfit 1 (some .long) rmX11_misfit) (hnt : NT Γ) (J : JT) (hJ : ∀ L a, Cor Γ 1 (lX11_misfit L a).1 (lX11_misfit L a).2.1 (lX11_misfit L a).2.2.1 (lX11_misfit L a).2.2.2.1 (lX11_misfit L a).2.2.2.2 (J L a)) (a : List Value) : Cor Γ 1 0 0 0 (lv_args 0 a) [] (bX11_misfit_0 J a) := by
  unfold bX11_misfit_0
  split
  · rename_i x0
    refine c_sub [0] rfl (loc' := [(0, .ref x0)]) ?_
    refine q_aload_n hC 0 dX11_misfit_0 rfl rfl ?_
    refine q_iconst hC dX11_misfit_1 rfl ?_
    refine q_putI hC (by decide) (by decide) rfl rfl w_833 dX11_misfit_2 ?_
    refine q_aload_n hC 0 dX11_misfit_5 rfl rfl ?_
    refine q_cVJ hC hnt (stk := []) (as := []) sX11_misfitNow (ci := 11) (by decide) rfl nX11_misfitNow rfl w_1108 w_1110 w_1111 w_830 w_1109 (Nat.le_of_ble_eq_true rfl) dX11_misfit_6 rfl (fun v1 => ?_)
    exact q_lret hC dX11_misfit_9 (Nat.le_of_ble_eq_true rfl) (Nat.le_of_ble_eq_true rfl)
  · exact c_no
theorem sX11_misfit : Snd yX11_misfit (.code yX11_misfit cX11_misfit 1 (some .long)) rmX11_misfit SX11_misfit := by
  refine Snd.of lX11_misfit (by decide +kernel) (fun _ => rfl) ?_
  intro Γ hC hnt hnm J hJ L a
  match L with
  | 0 => exact pX11_misfit_0 hC hnt J hJ a
  | L + 1 => exact c_no
