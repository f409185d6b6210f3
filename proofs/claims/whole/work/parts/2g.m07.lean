/-! SpiritWall.whyNone(I)I -/
theorem dX10_whyNone_0 : decode cX10_whyNone 0 = .ok (.aload_n 0, 1) := by decide +kernel
theorem dX10_whyNone_1 : decode cX10_whyNone 1 = .ok (.iload_n 1, 1) := by decide +kernel
theorem dX10_whyNone_2 : decode cX10_whyNone 2 = .ok (.invokevirtual 170, 3) := by decide +kernel
theorem dX10_whyNone_5 : decode cX10_whyNone 5 = .ok (.aload_n 0, 1) := by decide +kernel
theorem dX10_whyNone_6 : decode cX10_whyNone 6 = .ok (.aload_n 0, 1) := by decide +kernel
theorem dX10_whyNone_7 : decode cX10_whyNone 7 = .ok (.getfield 31, 3) := by decide +kernel
theorem dX10_whyNone_10 : decode cX10_whyNone 10 = .ok (.invokevirtual 135, 3) := by decide +kernel
theorem dX10_whyNone_13 : decode cX10_whyNone 13 = .ok (.aload_n 0, 1) := by decide +kernel
theorem dX10_whyNone_14 : decode cX10_whyNone 14 = .ok (.iload_n 1, 1) := by decide +kernel
theorem dX10_whyNone_15 : decode cX10_whyNone 15 = .ok (.invokevirtual 217, 3) := by decide +kernel
theorem dX10_whyNone_18 : decode cX10_whyNone 18 = .ok (.ifCond .eq 5, 3) := by decide +kernel
theorem dX10_whyNone_21 : decode cX10_whyNone 21 = .ok (.iconst 0, 1) := by decide +kernel
theorem dX10_whyNone_22 : decode cX10_whyNone 22 = .ok (.ireturn, 1) := by decide +kernel
theorem dX10_whyNone_23 : decode cX10_whyNone 23 = .ok (.aload_n 0, 1) := by decide +kernel
theorem dX10_whyNone_24 : decode cX10_whyNone 24 = .ok (.getfield 31, 3) := by decide +kernel
theorem dX10_whyNone_27 : decode cX10_whyNone 27 = .ok (.iload_n 1, 1) := by decide +kernel
theorem dX10_whyNone_28 : decode cX10_whyNone 28 = .ok (.iconst 1, 1) := by decide +kernel
theorem dX10_whyNone_29 : decode cX10_whyNone 29 = .ok (.invokevirtual 200, 3) := by decide +kernel
theorem dX10_whyNone_32 : decode cX10_whyNone 32 = .ok (.ifCond .ne 5, 3) := by decide +kernel
theorem dX10_whyNone_35 : decode cX10_whyNone 35 = .ok (.iconst 1, 1) := by decide +kernel
theorem dX10_whyNone_36 : decode cX10_whyNone 36 = .ok (.ireturn, 1) := by decide +kernel
theorem dX10_whyNone_37 : decode cX10_whyNone 37 = .ok (.aload_n 0, 1) := by decide +kernel
theorem dX10_whyNone_38 : decode cX10_whyNone 38 = .ok (.getfield 31, 3) := by decide +kernel
theorem dX10_whyNone_41 : decode cX10_whyNone 41 = .ok (.iload_n 1, 1) := by decide +kernel
theorem dX10_whyNone_42 : decode cX10_whyNone 42 = .ok (.iconst 0, 1) := by decide +kernel
theorem dX10_whyNone_43 : decode cX10_whyNone 43 = .ok (.invokevirtual 200, 3) := by decide +kernel
theorem dX10_whyNone_46 : decode cX10_whyNone 46 = .ok (.ifCond .ne 7, 3) := by decide +kernel
theorem dX10_whyNone_49 : decode cX10_whyNone 49 = .ok (.iconst 2, 1) := by decide +kernel
theorem dX10_whyNone_50 : decode cX10_whyNone 50 = .ok (.goto 4, 3) := by decide +kernel
theorem dX10_whyNone_53 : decode cX10_whyNone 53 = .ok (.iconst 3, 1) := by decide +kernel
theorem dX10_whyNone_54 : decode cX10_whyNone 54 = .ok (.ireturn, 1) := by decide +kernel
def rmX10_whyNone : Room := rmk 13 1 6 311
theorem nX10_whyNone : nameOk yX10_whyNone 1 = true := by decide +kernel
def bX10_whyNone_0 (J : JT) : List Value → Sem
  | [.ref x0, .int x1] =>
    ob 10 x0 (cV SX10_needMark [.ref x0, .int x1] <|
    gR 10 3 x0 fun r1 =>
    ob 10 x0 (cV SX10_survey [.ref x0, .ref r1] <|
    ob 10 x0 (cI SX10_joinedWithBench [.ref x0, .int x1] fun v2 =>
    br (v2 = 0)
    (gR 10 3 x0 fun r3 =>
    ob 6 r3 (cI SX6_sightsAt [.ref r3, .int x1, .int 1] fun v4 =>
    br (v4 = 0)
    (rI 1)
    (gR 10 3 x0 fun r5 =>
    ob 6 r5 (cI SX6_sightsAt [.ref r5, .int x1, .int 0] fun v6 =>
    br (v6 = 0)
    (rI 2)
    (rI 3)))))
    (rI 0))))
  | _ => no
def bX10_whyNone (J : JT) : JT := fun L a => match L with
  | 0 => bX10_whyNone_0 J a
  | _ => no
def SX10_whyNone : ST := mk 2 bX10_whyNone
def lX10_whyNone (L : Nat) (a : List Value) : Nat × Nat × Nat × List (Nat × Value) × List Value := match L with
  | 0 => (0, 0, 0, lv_args 0 a, [])
  | _ => (0, 0, 0, [], [])
theorem pX10_whyNone_0 {Γ : CT} (hC : Ctx Γ "SpiritWall" cX10_whyNone 2 (some .int) rmX10_whyNone) (hnt : NT Γ) (J : JT) (hJ : ∀ L a, Cor Γ 2 (lX10_whyNone L a).1 (lX10_whyNone L a).2.1 (lX10_whyNone L a).2.2.1 (lX10_whyNone L a).2.2.2.1 (lX10_whyNone L a).2.2.2.2 (J L a)) (a : List Value) : Cor Γ 2 0 0 0 (lv_args 0 a) [] (bX10_whyNone_0 J a) := by
  unfold bX10_whyNone_0
  split
  · rename_i x0 x1
    refine c_sub [0, 1] rfl (loc' := [(0, .ref x0), (1, .int x1)]) ?_
    refine q_aload_n hC 0 dX10_whyNone_0 rfl rfl ?_
    refine q_iload_n hC 1 dX10_whyNone_1 rfl rfl ?_
    refine q_cVV hC hnt (stk := []) (as := [.int x1]) sX10_needMark (ci := 10) (by decide) rfl nX10_needMark rfl w_575 w_577 w_578 w_27 w_576 (Nat.le_of_ble_eq_true rfl) dX10_whyNone_2 rfl ?_
    refine q_aload_n hC 0 dX10_whyNone_5 rfl rfl ?_
    refine q_aload_n hC 0 dX10_whyNone_6 rfl rfl ?_
    refine q_getR hC (by decide) (by decide) rfl w_133 dX10_whyNone_7 (fun r1 => ?_)
    refine q_cVV hC hnt (stk := []) (as := [.ref r1]) sX10_survey (ci := 10) (by decide) rfl nX10_survey rfl w_552 w_554 w_555 w_27 w_553 (Nat.le_of_ble_eq_true rfl) dX10_whyNone_10 rfl ?_
    refine q_aload_n hC 0 dX10_whyNone_13 rfl rfl ?_
    refine q_iload_n hC 1 dX10_whyNone_14 rfl rfl ?_
    refine q_cVI hC hnt (stk := []) (as := [.int x1]) sX10_joinedWithBench (ci := 10) (by decide) rfl nX10_joinedWithBench rfl w_619 w_621 w_622 w_27 w_620 (Nat.le_of_ble_eq_true rfl) dX10_whyNone_15 rfl (fun v2 => ?_)
    refine q_if_eq hC 23 dX10_whyNone_18 rfl ?_ ?_
    · refine q_aload_n hC 0 dX10_whyNone_23 rfl rfl ?_
      refine q_getR hC (by decide) (by decide) rfl w_133 dX10_whyNone_24 (fun r3 => ?_)
      refine q_iload_n hC 1 dX10_whyNone_27 rfl rfl ?_
      refine q_iconst hC dX10_whyNone_28 rfl ?_
      refine q_cVI hC hnt (stk := []) (as := [.int x1, .int 1]) sX6_sightsAt (ci := 6) (by decide) rfl nX6_sightsAt rfl w_600 w_602 w_603 w_35 w_601 (Nat.le_of_ble_eq_true rfl) dX10_whyNone_29 rfl (fun v4 => ?_)
      refine q_if_ne hC 37 dX10_whyNone_32 rfl ?_ ?_
      · refine q_aload_n hC 0 dX10_whyNone_37 rfl rfl ?_
        refine q_getR hC (by decide) (by decide) rfl w_133 dX10_whyNone_38 (fun r5 => ?_)
        refine q_iload_n hC 1 dX10_whyNone_41 rfl rfl ?_
        refine q_iconst hC dX10_whyNone_42 rfl ?_
        refine q_cVI hC hnt (stk := []) (as := [.int x1, .int 0]) sX6_sightsAt (ci := 6) (by decide) rfl nX6_sightsAt rfl w_600 w_602 w_603 w_35 w_601 (Nat.le_of_ble_eq_true rfl) dX10_whyNone_43 rfl (fun v6 => ?_)
        refine q_if_ne hC 53 dX10_whyNone_46 rfl ?_ ?_
        · refine q_iconst hC dX10_whyNone_53 rfl ?_
          exact q_iret hC dX10_whyNone_54 (Nat.le_of_ble_eq_true rfl) (Nat.le_of_ble_eq_true rfl)
        · refine q_iconst hC dX10_whyNone_49 rfl ?_
          refine q_goto hC 54 dX10_whyNone_50 rfl ?_
          exact q_iret hC dX10_whyNone_54 (Nat.le_of_ble_eq_true rfl) (Nat.le_of_ble_eq_true rfl)
      · refine q_iconst hC dX10_whyNone_35 rfl ?_
        exact q_iret hC dX10_whyNone_36 (Nat.le_of_ble_eq_true rfl) (Nat.le_of_ble_eq_true rfl)
    · refine q_iconst hC dX10_whyNone_21 rfl ?_
      exact q_iret hC dX10_whyNone_22 (Nat.le_of_ble_eq_true rfl) (Nat.le_of_ble_eq_true rfl)
  · exact c_no
theorem sX10_whyNone : Snd yX10_whyNone (.code yX10_whyNone cX10_whyNone 2 (some .int)) rmX10_whyNone SX10_whyNone := by
  refine Snd.of lX10_whyNone (by decide +kernel) (fun _ => rfl) ?_
  intro Γ hC hnt hnm J hJ L a
  match L with
  | 0 => exact pX10_whyNone_0 hC hnt J hJ a
  | L + 1 => exact c_no
/-! SpiritWall.needSight(I)V -/
theorem dX10_needSight_0 : decode cX10_needSight 0 = .ok (.iload_n 1, 1) := by decide +kernel
theorem dX10_needSight_1 : decode cX10_needSight 1 = .ok (.ifCond .lt 14, 3) := by decide +kernel
theorem dX10_needSight_4 : decode cX10_needSight 4 = .ok (.iload_n 1, 1) := by decide +kernel
theorem dX10_needSight_5 : decode cX10_needSight 5 = .ok (.aload_n 0, 1) := by decide +kernel
theorem dX10_needSight_6 : decode cX10_needSight 6 = .ok (.getfield 31, 3) := by decide +kernel
theorem dX10_needSight_9 : decode cX10_needSight 9 = .ok (.getfield 142, 3) := by decide +kernel
theorem dX10_needSight_12 : decode cX10_needSight 12 = .ok (.if_icmp .lt 14, 3) := by decide +kernel
theorem dX10_needSight_15 : decode cX10_needSight 15 = .ok (.new 437, 3) := by decide +kernel
theorem dX10_needSight_18 : decode cX10_needSight 18 = .ok (.dup, 1) := by decide +kernel
theorem dX10_needSight_19 : decode cX10_needSight 19 = .ok (.ldc_w 442, 3) := by decide +kernel
theorem dX10_needSight_22 : decode cX10_needSight 22 = .ok (.invokespecial 441, 3) := by decide +kernel
theorem dX10_needSight_25 : decode cX10_needSight 25 = .ok (.athrow, 1) := by decide +kernel
theorem dX10_needSight_26 : decode cX10_needSight 26 = .ok (.return_, 1) := by decide +kernel
def rmX10_needSight : Room := rmk 6 1 6 150
theorem nX10_needSight : nameOk yX10_needSight 1 = true := by decide +kernel
def bX10_needSight_0 (J : JT) : List Value → Sem
  | [.ref x0, .int x1] =>
    br (x1 < 0)
    (thr 1)
    (gR 10 3 x0 fun r1 =>
    gI 6 6 r1 fun v2 =>
    br (x1 < v2)
    (rV)
    (thr 1))
  | _ => no
def bX10_needSight (J : JT) : JT := fun L a => match L with
  | 0 => bX10_needSight_0 J a
  | _ => no
def SX10_needSight : ST := mk 2 bX10_needSight
def lX10_needSight (L : Nat) (a : List Value) : Nat × Nat × Nat × List (Nat × Value) × List Value := match L with
  | 0 => (0, 0, 0, lv_args 0 a, [])
  | _ => (0, 0, 0, [], [])
theorem pX10_needSight_0 {Γ : CT} (hC : Ctx Γ "SpiritWall" cX10_needSight 2 none rmX10_needSight) (hnt : NT Γ) (J : JT) (hJ : ∀ L a, Cor Γ 2 (lX10_needSight L a).1 (lX10_needSight L a).2.1 (lX10_needSight L a).2.2.1 (lX10_needSight L a).2.2.2.1 (lX10_needSight L a).2.2.2.2 (J L a)) (a : List Value) : Cor Γ 2 0 0 0 (lv_args 0 a) [] (bX10_needSight_0 J a) := by
  unfold bX10_needSight_0
  split
  · rename_i x0 x1
    refine c_sub [0, 1] rfl (loc' := [(0, .ref x0), (1, .int x1)]) ?_
    refine q_iload_n hC 1 dX10_needSight_0 rfl rfl ?_
    refine q_if_lt hC 15 dX10_needSight_1 rfl ?_ ?_
    · exact q_throwW hC (by decide) (by decide) (by decide +kernel) (i := 22) (tx := "there is no such sight") (by decide +kernel) hnt dX10_needSight_15 dX10_needSight_18 dX10_needSight_19 dX10_needSight_22 dX10_needSight_25 (Nat.le_of_ble_eq_true rfl) (Nat.le_of_ble_eq_true rfl) ⟨(Nat.le_of_ble_eq_true rfl), (Nat.le_of_ble_eq_true rfl)⟩
    · refine q_iload_n hC 1 dX10_needSight_4 rfl rfl ?_
      refine q_aload_n hC 0 dX10_needSight_5 rfl rfl ?_
      refine q_getR hC (by decide) (by decide) rfl w_133 dX10_needSight_6 (fun r1 => ?_)
      refine q_getI hC (by decide) (by decide) rfl w_560 dX10_needSight_9 (fun v2 => ?_)
      refine q_ic_lt hC 26 dX10_needSight_12 rfl ?_ ?_
      · exact q_vret hC dX10_needSight_26 (Nat.le_of_ble_eq_true rfl) (Nat.le_of_ble_eq_true rfl)
      · exact q_throwW hC (by decide) (by decide) (by decide +kernel) (i := 22) (tx := "there is no such sight") (by decide +kernel) hnt dX10_needSight_15 dX10_needSight_18 dX10_needSight_19 dX10_needSight_22 dX10_needSight_25 (Nat.le_of_ble_eq_true rfl) (Nat.le_of_ble_eq_true rfl) ⟨(Nat.le_of_ble_eq_true rfl), (Nat.le_of_ble_eq_true rfl)⟩
  · exact c_no
theorem sX10_needSight : Snd yX10_needSight (.code yX10_needSight cX10_needSight 2 none) rmX10_needSight SX10_needSight := by
  refine Snd.of lX10_needSight (by decide +kernel) (fun _ => rfl) ?_
  intro Γ hC hnt hnm J hJ L a
  match L with
  | 0 => exact pX10_needSight_0 hC hnt J hJ a
  | L + 1 => exact c_no
/-! SpiritWall.sight(II)I -/
theorem dX10_sight_0 : decode cX10_sight 0 = .ok (.aload_n 0, 1) := by decide +kernel
theorem dX10_sight_1 : decode cX10_sight 1 = .ok (.iload_n 1, 1) := by decide +kernel
theorem dX10_sight_2 : decode cX10_sight 2 = .ok (.invokevirtual 221, 3) := by decide +kernel
theorem dX10_sight_5 : decode cX10_sight 5 = .ok (.aload_n 0, 1) := by decide +kernel
theorem dX10_sight_6 : decode cX10_sight 6 = .ok (.getfield 62, 3) := by decide +kernel
theorem dX10_sight_9 : decode cX10_sight 9 = .ok (.aload_n 0, 1) := by decide +kernel
theorem dX10_sight_10 : decode cX10_sight 10 = .ok (.getfield 31, 3) := by decide +kernel
theorem dX10_sight_13 : decode cX10_sight 13 = .ok (.invokevirtual 164, 3) := by decide +kernel
theorem dX10_sight_16 : decode cX10_sight 16 = .ok (.iload_n 2, 1) := by decide +kernel
theorem dX10_sight_17 : decode cX10_sight 17 = .ok (.tableswitch 163 0 9 #[55, 67, 79, 91, 103, 115, 127, 136, 145, 154], 55) := by decide +kernel
theorem dX10_sight_72 : decode cX10_sight 72 = .ok (.aload_n 0, 1) := by decide +kernel
theorem dX10_sight_73 : decode cX10_sight 73 = .ok (.getfield 31, 3) := by decide +kernel
theorem dX10_sight_76 : decode cX10_sight 76 = .ok (.getfield 224, 3) := by decide +kernel
theorem dX10_sight_79 : decode cX10_sight 79 = .ok (.iload_n 1, 1) := by decide +kernel
theorem dX10_sight_80 : decode cX10_sight 80 = .ok (.invokestatic 190, 3) := by decide +kernel
theorem dX10_sight_83 : decode cX10_sight 83 = .ok (.ireturn, 1) := by decide +kernel
theorem dX10_sight_84 : decode cX10_sight 84 = .ok (.aload_n 0, 1) := by decide +kernel
theorem dX10_sight_85 : decode cX10_sight 85 = .ok (.getfield 31, 3) := by decide +kernel
theorem dX10_sight_88 : decode cX10_sight 88 = .ok (.getfield 227, 3) := by decide +kernel
theorem dX10_sight_91 : decode cX10_sight 91 = .ok (.iload_n 1, 1) := by decide +kernel
theorem dX10_sight_92 : decode cX10_sight 92 = .ok (.invokestatic 190, 3) := by decide +kernel
theorem dX10_sight_95 : decode cX10_sight 95 = .ok (.ireturn, 1) := by decide +kernel
theorem dX10_sight_96 : decode cX10_sight 96 = .ok (.aload_n 0, 1) := by decide +kernel
theorem dX10_sight_97 : decode cX10_sight 97 = .ok (.getfield 31, 3) := by decide +kernel
theorem dX10_sight_100 : decode cX10_sight 100 = .ok (.getfield 230, 3) := by decide +kernel
theorem dX10_sight_103 : decode cX10_sight 103 = .ok (.iload_n 1, 1) := by decide +kernel
theorem dX10_sight_104 : decode cX10_sight 104 = .ok (.invokestatic 190, 3) := by decide +kernel
theorem dX10_sight_107 : decode cX10_sight 107 = .ok (.ireturn, 1) := by decide +kernel
theorem dX10_sight_108 : decode cX10_sight 108 = .ok (.aload_n 0, 1) := by decide +kernel
theorem dX10_sight_109 : decode cX10_sight 109 = .ok (.getfield 31, 3) := by decide +kernel
theorem dX10_sight_112 : decode cX10_sight 112 = .ok (.getfield 233, 3) := by decide +kernel
theorem dX10_sight_115 : decode cX10_sight 115 = .ok (.iload_n 1, 1) := by decide +kernel
theorem dX10_sight_116 : decode cX10_sight 116 = .ok (.invokestatic 190, 3) := by decide +kernel
theorem dX10_sight_119 : decode cX10_sight 119 = .ok (.ireturn, 1) := by decide +kernel
theorem dX10_sight_120 : decode cX10_sight 120 = .ok (.aload_n 0, 1) := by decide +kernel
theorem dX10_sight_121 : decode cX10_sight 121 = .ok (.getfield 31, 3) := by decide +kernel
theorem dX10_sight_124 : decode cX10_sight 124 = .ok (.getfield 236, 3) := by decide +kernel
theorem dX10_sight_127 : decode cX10_sight 127 = .ok (.iload_n 1, 1) := by decide +kernel
theorem dX10_sight_128 : decode cX10_sight 128 = .ok (.invokestatic 190, 3) := by decide +kernel
theorem dX10_sight_131 : decode cX10_sight 131 = .ok (.ireturn, 1) := by decide +kernel
theorem dX10_sight_132 : decode cX10_sight 132 = .ok (.aload_n 0, 1) := by decide +kernel
theorem dX10_sight_133 : decode cX10_sight 133 = .ok (.getfield 31, 3) := by decide +kernel
theorem dX10_sight_136 : decode cX10_sight 136 = .ok (.getfield 239, 3) := by decide +kernel
theorem dX10_sight_139 : decode cX10_sight 139 = .ok (.iload_n 1, 1) := by decide +kernel
theorem dX10_sight_140 : decode cX10_sight 140 = .ok (.invokestatic 190, 3) := by decide +kernel
theorem dX10_sight_143 : decode cX10_sight 143 = .ok (.ireturn, 1) := by decide +kernel
theorem dX10_sight_144 : decode cX10_sight 144 = .ok (.aload_n 0, 1) := by decide +kernel
theorem dX10_sight_145 : decode cX10_sight 145 = .ok (.getfield 62, 3) := by decide +kernel
theorem dX10_sight_148 : decode cX10_sight 148 = .ok (.iload_n 1, 1) := by decide +kernel
theorem dX10_sight_149 : decode cX10_sight 149 = .ok (.invokevirtual 242, 3) := by decide +kernel
theorem dX10_sight_152 : decode cX10_sight 152 = .ok (.ireturn, 1) := by decide +kernel
theorem dX10_sight_153 : decode cX10_sight 153 = .ok (.aload_n 0, 1) := by decide +kernel
theorem dX10_sight_154 : decode cX10_sight 154 = .ok (.getfield 62, 3) := by decide +kernel
theorem dX10_sight_157 : decode cX10_sight 157 = .ok (.iload_n 1, 1) := by decide +kernel
theorem dX10_sight_158 : decode cX10_sight 158 = .ok (.invokevirtual 245, 3) := by decide +kernel
theorem dX10_sight_161 : decode cX10_sight 161 = .ok (.ireturn, 1) := by decide +kernel
theorem dX10_sight_162 : decode cX10_sight 162 = .ok (.aload_n 0, 1) := by decide +kernel
theorem dX10_sight_163 : decode cX10_sight 163 = .ok (.getfield 62, 3) := by decide +kernel
theorem dX10_sight_166 : decode cX10_sight 166 = .ok (.iload_n 1, 1) := by decide +kernel
theorem dX10_sight_167 : decode cX10_sight 167 = .ok (.invokevirtual 248, 3) := by decide +kernel
theorem dX10_sight_170 : decode cX10_sight 170 = .ok (.ireturn, 1) := by decide +kernel
theorem dX10_sight_171 : decode cX10_sight 171 = .ok (.aload_n 0, 1) := by decide +kernel
theorem dX10_sight_172 : decode cX10_sight 172 = .ok (.getfield 62, 3) := by decide +kernel
theorem dX10_sight_175 : decode cX10_sight 175 = .ok (.iload_n 1, 1) := by decide +kernel
theorem dX10_sight_176 : decode cX10_sight 176 = .ok (.invokevirtual 251, 3) := by decide +kernel
theorem dX10_sight_179 : decode cX10_sight 179 = .ok (.ireturn, 1) := by decide +kernel
theorem dX10_sight_180 : decode cX10_sight 180 = .ok (.new 207, 3) := by decide +kernel
theorem dX10_sight_183 : decode cX10_sight 183 = .ok (.dup, 1) := by decide +kernel
theorem dX10_sight_184 : decode cX10_sight 184 = .ok (.ldc 254, 2) := by decide +kernel
theorem dX10_sight_186 : decode cX10_sight 186 = .ok (.invokespecial 211, 3) := by decide +kernel
theorem dX10_sight_189 : decode cX10_sight 189 = .ok (.athrow, 1) := by decide +kernel
def rmX10_sight : Room := rmk 12 2 12 290
theorem nX10_sight : nameOk yX10_sight 2 = true := by decide +kernel
def bX10_sight_0 (J : JT) : List Value → Sem
  | [.ref x0, .int x1, .int x2] =>
    ob 10 x0 (cV SX10_needSight [.ref x0, .int x1] <|
    gR 10 8 x0 fun r1 =>
    gR 10 3 x0 fun r2 =>
    ob 0 r1 (cV SX0_measure [.ref r1, .ref r2] <|
    sw x2 (0) 10 fun k => match k with
    | 0 => (gR 10 3 x0 fun r3 =>
    gR 6 7 r3 fun r4 =>
    cI SX10_cell [.ref r4, .int x1] fun v5 =>
    rI v5)
    | 1 => (gR 10 3 x0 fun r6 =>
    gR 6 8 r6 fun r7 =>
    cI SX10_cell [.ref r7, .int x1] fun v8 =>
    rI v8)
    | 2 => (gR 10 3 x0 fun r9 =>
    gR 6 9 r9 fun r10 =>
    cI SX10_cell [.ref r10, .int x1] fun v11 =>
    rI v11)
    | 3 => (gR 10 3 x0 fun r12 =>
    gR 6 10 r12 fun r13 =>
    cI SX10_cell [.ref r13, .int x1] fun v14 =>
    rI v14)
    | 4 => (gR 10 3 x0 fun r15 =>
    gR 6 11 r15 fun r16 =>
    cI SX10_cell [.ref r16, .int x1] fun v17 =>
    rI v17)
    | 5 => (gR 10 3 x0 fun r18 =>
    gR 6 12 r18 fun r19 =>
    cI SX10_cell [.ref r19, .int x1] fun v20 =>
    rI v20)
    | 6 => (gR 10 8 x0 fun r21 =>
    ob 0 r21 (cI SX0_swingsOf [.ref r21, .int x1] fun v22 =>
    rI v22))
    | 7 => (gR 10 8 x0 fun r23 =>
    ob 0 r23 (cI SX0_bendOf [.ref r23, .int x1] fun v24 =>
    rI v24))
    | 8 => (gR 10 8 x0 fun r25 =>
    ob 0 r25 (cI SX0_warmthOf [.ref r25, .int x1] fun v26 =>
    rI v26))
    | 9 => (gR 10 8 x0 fun r27 =>
    ob 0 r27 (cI SX0_sightRise [.ref r27, .int x1] fun v28 =>
    rI v28))
    | _ => (thr 2)))
  | _ => no
def bX10_sight (J : JT) : JT := fun L a => match L with
  | 0 => bX10_sight_0 J a
  | _ => no
def SX10_sight : ST := mk 3 bX10_sight
def lX10_sight (L : Nat) (a : List Value) : Nat × Nat × Nat × List (Nat × Value) × List Value := match L with
  | 0 => (0, 0, 0, lv_args 0 a, [])
  | _ => (0, 0, 0, [], [])
theorem pX10_sight_0 {Γ : CT} (hC : Ctx Γ "SpiritWall" cX10_sight 3 (some .int) rmX10_sight) (hnt : NT Γ) (J : JT) (hJ : ∀ L a, Cor Γ 3 (lX10_sight L a).1 (lX10_sight L a).2.1 (lX10_sight L a).2.2.1 (lX10_sight L a).2.2.2.1 (lX10_sight L a).2.2.2.2 (J L a)) (a : List Value) : Cor Γ 3 0 0 0 (lv_args 0 a) [] (bX10_sight_0 J a) := by
  unfold bX10_sight_0
  split
  · rename_i x0 x1 x2
    refine c_sub [0, 1, 2] rfl (loc' := [(0, .ref x0), (1, .int x1), (2, .int x2)]) ?_
    refine q_aload_n hC 0 dX10_sight_0 rfl rfl ?_
    refine q_iload_n hC 1 dX10_sight_1 rfl rfl ?_
    refine q_cVV hC hnt (stk := []) (as := [.int x1]) sX10_needSight (ci := 10) (by decide) rfl nX10_needSight rfl w_623 w_625 w_626 w_27 w_624 (Nat.le_of_ble_eq_true rfl) dX10_sight_2 rfl ?_
    refine q_aload_n hC 0 dX10_sight_5 rfl rfl ?_
    refine q_getR hC (by decide) (by decide) rfl w_150 dX10_sight_6 (fun r1 => ?_)
    refine q_aload_n hC 0 dX10_sight_9 rfl rfl ?_
    refine q_getR hC (by decide) (by decide) rfl w_133 dX10_sight_10 (fun r2 => ?_)
    refine q_cVV hC hnt (stk := []) (as := [.ref r2]) sX0_measure (ci := 0) (by decide) rfl nX0_measure rfl w_536 w_538 w_539 w_149 w_537 (Nat.le_of_ble_eq_true rfl) dX10_sight_13 rfl ?_
    refine q_iload_n hC 2 dX10_sight_16 rfl rfl ?_
    refine q_sw hC (0) 10 (fun k => ([72, 84, 96, 108, 120, 132, 144, 153, 162, 171] : List Nat).getD k 180) dX10_sight_17 rfl rfl (by decide +kernel) rfl ?_
    intro i hi
    match i, hi with
    | 0, _ =>
      refine c_pc (pc' := 72) rfl ?_
      refine q_aload_n hC 0 dX10_sight_72 rfl rfl ?_
      refine q_getR hC (by decide) (by decide) rfl w_133 dX10_sight_73 (fun r3 => ?_)
      refine q_getR hC (by decide) (by decide) rfl w_627 dX10_sight_76 (fun r4 => ?_)
      refine q_iload_n hC 1 dX10_sight_79 rfl rfl ?_
      refine q_cSI hC hnt (stk := []) (as := [.ref r4, .int x1]) sX10_cell nX10_cell rfl w_408 w_202 w_27 w_201 (Nat.le_of_ble_eq_true rfl) dX10_sight_80 rfl (fun v5 => ?_)
      exact q_iret hC dX10_sight_83 (Nat.le_of_ble_eq_true rfl) (Nat.le_of_ble_eq_true rfl)
    | 1, _ =>
      refine c_pc (pc' := 84) rfl ?_
      refine q_aload_n hC 0 dX10_sight_84 rfl rfl ?_
      refine q_getR hC (by decide) (by decide) rfl w_133 dX10_sight_85 (fun r6 => ?_)
      refine q_getR hC (by decide) (by decide) rfl w_628 dX10_sight_88 (fun r7 => ?_)
      refine q_iload_n hC 1 dX10_sight_91 rfl rfl ?_
      refine q_cSI hC hnt (stk := []) (as := [.ref r7, .int x1]) sX10_cell nX10_cell rfl w_408 w_202 w_27 w_201 (Nat.le_of_ble_eq_true rfl) dX10_sight_92 rfl (fun v8 => ?_)
      exact q_iret hC dX10_sight_95 (Nat.le_of_ble_eq_true rfl) (Nat.le_of_ble_eq_true rfl)
    | 2, _ =>
      refine c_pc (pc' := 96) rfl ?_
      refine q_aload_n hC 0 dX10_sight_96 rfl rfl ?_
      refine q_getR hC (by decide) (by decide) rfl w_133 dX10_sight_97 (fun r9 => ?_)
      refine q_getR hC (by decide) (by decide) rfl w_629 dX10_sight_100 (fun r10 => ?_)
      refine q_iload_n hC 1 dX10_sight_103 rfl rfl ?_
      refine q_cSI hC hnt (stk := []) (as := [.ref r10, .int x1]) sX10_cell nX10_cell rfl w_408 w_202 w_27 w_201 (Nat.le_of_ble_eq_true rfl) dX10_sight_104 rfl (fun v11 => ?_)
      exact q_iret hC dX10_sight_107 (Nat.le_of_ble_eq_true rfl) (Nat.le_of_ble_eq_true rfl)
    | 3, _ =>
      refine c_pc (pc' := 108) rfl ?_
      refine q_aload_n hC 0 dX10_sight_108 rfl rfl ?_
      refine q_getR hC (by decide) (by decide) rfl w_133 dX10_sight_109 (fun r12 => ?_)
      refine q_getR hC (by decide) (by decide) rfl w_630 dX10_sight_112 (fun r13 => ?_)
      refine q_iload_n hC 1 dX10_sight_115 rfl rfl ?_
      refine q_cSI hC hnt (stk := []) (as := [.ref r13, .int x1]) sX10_cell nX10_cell rfl w_408 w_202 w_27 w_201 (Nat.le_of_ble_eq_true rfl) dX10_sight_116 rfl (fun v14 => ?_)
      exact q_iret hC dX10_sight_119 (Nat.le_of_ble_eq_true rfl) (Nat.le_of_ble_eq_true rfl)
    | 4, _ =>
      refine c_pc (pc' := 120) rfl ?_
      refine q_aload_n hC 0 dX10_sight_120 rfl rfl ?_
      refine q_getR hC (by decide) (by decide) rfl w_133 dX10_sight_121 (fun r15 => ?_)
      refine q_getR hC (by decide) (by decide) rfl w_631 dX10_sight_124 (fun r16 => ?_)
      refine q_iload_n hC 1 dX10_sight_127 rfl rfl ?_
      refine q_cSI hC hnt (stk := []) (as := [.ref r16, .int x1]) sX10_cell nX10_cell rfl w_408 w_202 w_27 w_201 (Nat.le_of_ble_eq_true rfl) dX10_sight_128 rfl (fun v17 => ?_)
      exact q_iret hC dX10_sight_131 (Nat.le_of_ble_eq_true rfl) (Nat.le_of_ble_eq_true rfl)
    | 5, _ =>
      refine c_pc (pc' := 132) rfl ?_
      refine q_aload_n hC 0 dX10_sight_132 rfl rfl ?_
      refine q_getR hC (by decide) (by decide) rfl w_133 dX10_sight_133 (fun r18 => ?_)
      refine q_getR hC (by decide) (by decide) rfl w_632 dX10_sight_136 (fun r19 => ?_)
      refine q_iload_n hC 1 dX10_sight_139 rfl rfl ?_
      refine q_cSI hC hnt (stk := []) (as := [.ref r19, .int x1]) sX10_cell nX10_cell rfl w_408 w_202 w_27 w_201 (Nat.le_of_ble_eq_true rfl) dX10_sight_140 rfl (fun v20 => ?_)
      exact q_iret hC dX10_sight_143 (Nat.le_of_ble_eq_true rfl) (Nat.le_of_ble_eq_true rfl)
    | 6, _ =>
      refine c_pc (pc' := 144) rfl ?_
      refine q_aload_n hC 0 dX10_sight_144 rfl rfl ?_
      refine q_getR hC (by decide) (by decide) rfl w_150 dX10_sight_145 (fun r21 => ?_)
      refine q_iload_n hC 1 dX10_sight_148 rfl rfl ?_
      refine q_cVI hC hnt (stk := []) (as := [.int x1]) sX0_swingsOf (ci := 0) (by decide) rfl nX0_swingsOf rfl w_633 w_386 w_387 w_149 w_385 (Nat.le_of_ble_eq_true rfl) dX10_sight_149 rfl (fun v22 => ?_)
      exact q_iret hC dX10_sight_152 (Nat.le_of_ble_eq_true rfl) (Nat.le_of_ble_eq_true rfl)
    | 7, _ =>
      refine c_pc (pc' := 153) rfl ?_
      refine q_aload_n hC 0 dX10_sight_153 rfl rfl ?_
      refine q_getR hC (by decide) (by decide) rfl w_150 dX10_sight_154 (fun r23 => ?_)
      refine q_iload_n hC 1 dX10_sight_157 rfl rfl ?_
      refine q_cVI hC hnt (stk := []) (as := [.int x1]) sX0_bendOf (ci := 0) (by decide) rfl nX0_bendOf rfl w_634 w_377 w_378 w_149 w_376 (Nat.le_of_ble_eq_true rfl) dX10_sight_158 rfl (fun v24 => ?_)
      exact q_iret hC dX10_sight_161 (Nat.le_of_ble_eq_true rfl) (Nat.le_of_ble_eq_true rfl)
    | 8, _ =>
      refine c_pc (pc' := 162) rfl ?_
      refine q_aload_n hC 0 dX10_sight_162 rfl rfl ?_
      refine q_getR hC (by decide) (by decide) rfl w_150 dX10_sight_163 (fun r25 => ?_)
      refine q_iload_n hC 1 dX10_sight_166 rfl rfl ?_
      refine q_cVI hC hnt (stk := []) (as := [.int x1]) sX0_warmthOf (ci := 0) (by decide) rfl nX0_warmthOf rfl w_635 w_381 w_382 w_149 w_380 (Nat.le_of_ble_eq_true rfl) dX10_sight_167 rfl (fun v26 => ?_)
      exact q_iret hC dX10_sight_170 (Nat.le_of_ble_eq_true rfl) (Nat.le_of_ble_eq_true rfl)
    | 9, _ =>
      refine c_pc (pc' := 171) rfl ?_
      refine q_aload_n hC 0 dX10_sight_171 rfl rfl ?_
      refine q_getR hC (by decide) (by decide) rfl w_150 dX10_sight_172 (fun r27 => ?_)
      refine q_iload_n hC 1 dX10_sight_175 rfl rfl ?_
      refine q_cVI hC hnt (stk := []) (as := [.int x1]) sX0_sightRise (ci := 0) (by decide) rfl nX0_sightRise rfl w_636 w_437 w_438 w_149 w_436 (Nat.le_of_ble_eq_true rfl) dX10_sight_176 rfl (fun v28 => ?_)
      exact q_iret hC dX10_sight_179 (Nat.le_of_ble_eq_true rfl) (Nat.le_of_ble_eq_true rfl)
    | 10, _ =>
      refine c_pc (pc' := 180) rfl ?_
      exact q_throw hC (by decide) (by decide) (by decide +kernel) (i := 23) (tx := "no such number of a sight") (by decide +kernel) hnt dX10_sight_180 dX10_sight_183 dX10_sight_184 dX10_sight_186 dX10_sight_189 (Nat.le_of_ble_eq_true rfl) (Nat.le_of_ble_eq_true rfl) ⟨(Nat.le_of_ble_eq_true rfl), (Nat.le_of_ble_eq_true rfl)⟩
    | k + 11, h => exact absurd h (by omega)
  · exact c_no
theorem sX10_sight : Snd yX10_sight (.code yX10_sight cX10_sight 3 (some .int)) rmX10_sight SX10_sight := by
  refine Snd.of lX10_sight (by decide +kernel) (fun _ => rfl) ?_
  intro Γ hC hnt hnm J hJ L a
  match L with
  | 0 => exact pX10_sight_0 hC hnt J hJ a
  | L + 1 => exact c_no
/-! SpiritWall$Edges.riseFrom(II)I -/
theorem dX0_riseFrom_0 : decode cX0_riseFrom 0 = .ok (.aload_n 0, 1) := by decide +kernel
theorem dX0_riseFrom_1 : decode cX0_riseFrom 1 = .ok (.getfield 43, 3) := by decide +kernel
theorem dX0_riseFrom_4 : decode cX0_riseFrom 4 = .ok (.iload_n 1, 1) := by decide +kernel
theorem dX0_riseFrom_5 : decode cX0_riseFrom 5 = .ok (.invokestatic 102, 3) := by decide +kernel
theorem dX0_riseFrom_8 : decode cX0_riseFrom 8 = .ok (.istore_n 3, 1) := by decide +kernel
theorem dX0_riseFrom_9 : decode cX0_riseFrom 9 = .ok (.aload_n 0, 1) := by decide +kernel
theorem dX0_riseFrom_10 : decode cX0_riseFrom 10 = .ok (.getfield 31, 3) := by decide +kernel
theorem dX0_riseFrom_13 : decode cX0_riseFrom 13 = .ok (.iload_n 1, 1) := by decide +kernel
theorem dX0_riseFrom_14 : decode cX0_riseFrom 14 = .ok (.invokestatic 102, 3) := by decide +kernel
theorem dX0_riseFrom_17 : decode cX0_riseFrom 17 = .ok (.iload_n 2, 1) := by decide +kernel
theorem dX0_riseFrom_18 : decode cX0_riseFrom 18 = .ok (.if_icmp .ne 7, 3) := by decide +kernel
theorem dX0_riseFrom_21 : decode cX0_riseFrom 21 = .ok (.iload_n 3, 1) := by decide +kernel
theorem dX0_riseFrom_22 : decode cX0_riseFrom 22 = .ok (.goto 5, 3) := by decide +kernel
theorem dX0_riseFrom_25 : decode cX0_riseFrom 25 = .ok (.iload_n 3, 1) := by decide +kernel
theorem dX0_riseFrom_26 : decode cX0_riseFrom 26 = .ok (.ineg, 1) := by decide +kernel
theorem dX0_riseFrom_27 : decode cX0_riseFrom 27 = .ok (.ireturn, 1) := by decide +kernel
def rmX0_riseFrom : Room := rmk 7 0 0 171
theorem nX0_riseFrom : nameOk yX0_riseFrom 2 = true := by decide +kernel
def bX0_riseFrom_0 (J : JT) : List Value → Sem
  | [.ref x0, .int x1, .int x2] =>
    gR 0 12 x0 fun r1 =>
    cI SX10_cell [.ref r1, .int x1] fun v2 =>
    gR 0 8 x0 fun r3 =>
    cI SX10_cell [.ref r3, .int x1] fun v4 =>
    br (v4 = x2)
    (rI v2)
    (rI (-v2))
  | _ => no
def bX0_riseFrom (J : JT) : JT := fun L a => match L with
  | 0 => bX0_riseFrom_0 J a
  | _ => no
def SX0_riseFrom : ST := mk 4 bX0_riseFrom
def lX0_riseFrom (L : Nat) (a : List Value) : Nat × Nat × Nat × List (Nat × Value) × List Value := match L with
  | 0 => (0, 0, 0, lv_args 0 a, [])
  | _ => (0, 0, 0, [], [])
theorem pX0_riseFrom_0 {Γ : CT} (hC : Ctx Γ "SpiritWall$Edges" cX0_riseFrom 4 (some .int) rmX0_riseFrom) (hnt : NT Γ) (J : JT) (hJ : ∀ L a, Cor Γ 4 (lX0_riseFrom L a).1 (lX0_riseFrom L a).2.1 (lX0_riseFrom L a).2.2.1 (lX0_riseFrom L a).2.2.2.1 (lX0_riseFrom L a).2.2.2.2 (J L a)) (a : List Value) : Cor Γ 4 0 0 0 (lv_args 0 a) [] (bX0_riseFrom_0 J a) := by
  unfold bX0_riseFrom_0
  split
  · rename_i x0 x1 x2
    refine c_sub [0, 1, 2] rfl (loc' := [(0, .ref x0), (1, .int x1), (2, .int x2)]) ?_
    refine q_aload_n hC 0 dX0_riseFrom_0 rfl rfl ?_
    refine q_getR hC (by decide) (by decide) rfl w_94 dX0_riseFrom_1 (fun r1 => ?_)
    refine q_iload_n hC 1 dX0_riseFrom_4 rfl rfl ?_
    refine q_cNI hC hnt (stk := []) (as := [.ref r1, .int x1]) sX10_cell nX10_cell rfl w_352 w_202 w_27 w_201 (Nat.le_of_ble_eq_true rfl) dX0_riseFrom_5 rfl (fun v2 => ?_)
    refine q_istore_nA hC (loc' := [(3, .int v2), (0, .ref x0), (1, .int x1), (2, .int x2)]) dX0_riseFrom_8 rfl (Nat.le_of_ble_eq_true rfl) rfl ?_
    refine q_aload_n hC 1 dX0_riseFrom_9 rfl rfl ?_
    refine q_getR hC (by decide) (by decide) rfl w_90 dX0_riseFrom_10 (fun r3 => ?_)
    refine q_iload_n hC 2 dX0_riseFrom_13 rfl rfl ?_
    refine q_cNI hC hnt (stk := []) (as := [.ref r3, .int x1]) sX10_cell nX10_cell rfl w_352 w_202 w_27 w_201 (Nat.le_of_ble_eq_true rfl) dX0_riseFrom_14 rfl (fun v4 => ?_)
    refine q_iload_n hC 3 dX0_riseFrom_17 rfl rfl ?_
    refine q_ic_ne hC 25 dX0_riseFrom_18 rfl ?_ ?_
    · refine q_iload_n hC 0 dX0_riseFrom_25 rfl rfl ?_
      refine q_ineg hC dX0_riseFrom_26 ?_
      exact q_iret hC dX0_riseFrom_27 (Nat.le_of_ble_eq_true rfl) (Nat.le_of_ble_eq_true rfl)
    · refine q_iload_n hC 0 dX0_riseFrom_21 rfl rfl ?_
      refine q_goto hC 27 dX0_riseFrom_22 rfl ?_
      exact q_iret hC dX0_riseFrom_27 (Nat.le_of_ble_eq_true rfl) (Nat.le_of_ble_eq_true rfl)
  · exact c_no
theorem sX0_riseFrom : Snd yX0_riseFrom (.code yX0_riseFrom cX0_riseFrom 4 (some .int)) rmX0_riseFrom SX0_riseFrom := by
  refine Snd.of lX0_riseFrom (by decide +kernel) (fun _ => rfl) ?_
  intro Γ hC hnt hnm J hJ L a
  match L with
  | 0 => exact pX0_riseFrom_0 hC hnt J hJ a
  | L + 1 => exact c_no
/-! SpiritWall.rise(II)I -/
theorem dX10_rise_0 : decode cX10_rise 0 = .ok (.aload_n 0, 1) := by decide +kernel
theorem dX10_rise_1 : decode cX10_rise 1 = .ok (.iload_n 1, 1) := by decide +kernel
theorem dX10_rise_2 : decode cX10_rise 2 = .ok (.invokevirtual 170, 3) := by decide +kernel
theorem dX10_rise_5 : decode cX10_rise 5 = .ok (.aload_n 0, 1) := by decide +kernel
theorem dX10_rise_6 : decode cX10_rise 6 = .ok (.iload_n 2, 1) := by decide +kernel
theorem dX10_rise_7 : decode cX10_rise 7 = .ok (.invokevirtual 170, 3) := by decide +kernel
theorem dX10_rise_10 : decode cX10_rise 10 = .ok (.aload_n 0, 1) := by decide +kernel
theorem dX10_rise_11 : decode cX10_rise 11 = .ok (.getfield 62, 3) := by decide +kernel
theorem dX10_rise_14 : decode cX10_rise 14 = .ok (.aload_n 0, 1) := by decide +kernel
theorem dX10_rise_15 : decode cX10_rise 15 = .ok (.getfield 31, 3) := by decide +kernel
theorem dX10_rise_18 : decode cX10_rise 18 = .ok (.invokevirtual 164, 3) := by decide +kernel
theorem dX10_rise_21 : decode cX10_rise 21 = .ok (.aload_n 0, 1) := by decide +kernel
theorem dX10_rise_22 : decode cX10_rise 22 = .ok (.getfield 62, 3) := by decide +kernel
theorem dX10_rise_25 : decode cX10_rise 25 = .ok (.iload_n 1, 1) := by decide +kernel
theorem dX10_rise_26 : decode cX10_rise 26 = .ok (.iload_n 2, 1) := by decide +kernel
theorem dX10_rise_27 : decode cX10_rise 27 = .ok (.invokevirtual 173, 3) := by decide +kernel
theorem dX10_rise_30 : decode cX10_rise 30 = .ok (.istore_n 3, 1) := by decide +kernel
theorem dX10_rise_31 : decode cX10_rise 31 = .ok (.iload_n 3, 1) := by decide +kernel
theorem dX10_rise_32 : decode cX10_rise 32 = .ok (.iconst (-1), 1) := by decide +kernel
theorem dX10_rise_33 : decode cX10_rise 33 = .ok (.if_icmp .ne 9, 3) := by decide +kernel
theorem dX10_rise_36 : decode cX10_rise 36 = .ok (.ldc_w 256, 3) := by decide +kernel
theorem dX10_rise_39 : decode cX10_rise 39 = .ok (.goto 12, 3) := by decide +kernel
theorem dX10_rise_42 : decode cX10_rise 42 = .ok (.aload_n 0, 1) := by decide +kernel
theorem dX10_rise_43 : decode cX10_rise 43 = .ok (.getfield 62, 3) := by decide +kernel
theorem dX10_rise_46 : decode cX10_rise 46 = .ok (.iload_n 3, 1) := by decide +kernel
theorem dX10_rise_47 : decode cX10_rise 47 = .ok (.iload_n 1, 1) := by decide +kernel
theorem dX10_rise_48 : decode cX10_rise 48 = .ok (.invokevirtual 257, 3) := by decide +kernel
theorem dX10_rise_51 : decode cX10_rise 51 = .ok (.ireturn, 1) := by decide +kernel
def rmX10_rise : Room := rmk 12 2 12 290
theorem nX10_rise : nameOk yX10_rise 2 = true := by decide +kernel
def bX10_rise_0 (J : JT) : List Value → Sem
  | [.ref x0, .int x1, .int x2] =>
    ob 10 x0 (cV SX10_needMark [.ref x0, .int x1] <|
    ob 10 x0 (cV SX10_needMark [.ref x0, .int x2] <|
    gR 10 8 x0 fun r1 =>
    gR 10 3 x0 fun r2 =>
    ob 0 r1 (cV SX0_measure [.ref r1, .ref r2] <|
    gR 10 8 x0 fun r3 =>
    ob 0 r3 (cI SX0_between [.ref r3, .int x1, .int x2] fun v4 =>
    br (v4 = ((-1) : Int32))
    (rI (-10000000))
    (gR 10 8 x0 fun r5 =>
    ob 0 r5 (cI SX0_riseFrom [.ref r5, .int v4, .int x1] fun v6 =>
    rI v6))))))
  | _ => no
def bX10_rise (J : JT) : JT := fun L a => match L with
  | 0 => bX10_rise_0 J a
  | _ => no
def SX10_rise : ST := mk 4 bX10_rise
def lX10_rise (L : Nat) (a : List Value) : Nat × Nat × Nat × List (Nat × Value) × List Value := match L with
  | 0 => (0, 0, 0, lv_args 0 a, [])
  | _ => (0, 0, 0, [], [])
theorem pX10_rise_0 {Γ : CT} (hC : Ctx Γ "SpiritWall" cX10_rise 4 (some .int) rmX10_rise) (hnt : NT Γ) (J : JT) (hJ : ∀ L a, Cor Γ 4 (lX10_rise L a).1 (lX10_rise L a).2.1 (lX10_rise L a).2.2.1 (lX10_rise L a).2.2.2.1 (lX10_rise L a).2.2.2.2 (J L a)) (a : List Value) : Cor Γ 4 0 0 0 (lv_args 0 a) [] (bX10_rise_0 J a) := by
  unfold bX10_rise_0
  split
  · rename_i x0 x1 x2
    refine c_sub [0, 1, 2] rfl (loc' := [(0, .ref x0), (1, .int x1), (2, .int x2)]) ?_
    refine q_aload_n hC 0 dX10_rise_0 rfl rfl ?_
    refine q_iload_n hC 1 dX10_rise_1 rfl rfl ?_
    refine q_cVV hC hnt (stk := []) (as := [.int x1]) sX10_needMark (ci := 10) (by decide) rfl nX10_needMark rfl w_575 w_577 w_578 w_27 w_576 (Nat.le_of_ble_eq_true rfl) dX10_rise_2 rfl ?_
    refine q_aload_n hC 0 dX10_rise_5 rfl rfl ?_
    refine q_iload_n hC 2 dX10_rise_6 rfl rfl ?_
    refine q_cVV hC hnt (stk := []) (as := [.int x2]) sX10_needMark (ci := 10) (by decide) rfl nX10_needMark rfl w_575 w_577 w_578 w_27 w_576 (Nat.le_of_ble_eq_true rfl) dX10_rise_7 rfl ?_
    refine q_aload_n hC 0 dX10_rise_10 rfl rfl ?_
    refine q_getR hC (by decide) (by decide) rfl w_150 dX10_rise_11 (fun r1 => ?_)
    refine q_aload_n hC 0 dX10_rise_14 rfl rfl ?_
    refine q_getR hC (by decide) (by decide) rfl w_133 dX10_rise_15 (fun r2 => ?_)
    refine q_cVV hC hnt (stk := []) (as := [.ref r2]) sX0_measure (ci := 0) (by decide) rfl nX0_measure rfl w_536 w_538 w_539 w_149 w_537 (Nat.le_of_ble_eq_true rfl) dX10_rise_18 rfl ?_
    refine q_aload_n hC 0 dX10_rise_21 rfl rfl ?_
    refine q_getR hC (by decide) (by decide) rfl w_150 dX10_rise_22 (fun r3 => ?_)
    refine q_iload_n hC 1 dX10_rise_25 rfl rfl ?_
    refine q_iload_n hC 2 dX10_rise_26 rfl rfl ?_
    refine q_cVI hC hnt (stk := []) (as := [.int x1, .int x2]) sX0_between (ci := 0) (by decide) rfl nX0_between rfl w_579 w_406 w_407 w_149 w_405 (Nat.le_of_ble_eq_true rfl) dX10_rise_27 rfl (fun v4 => ?_)
    refine q_istore_nA hC (loc' := [(3, .int v4), (0, .ref x0), (1, .int x1), (2, .int x2)]) dX10_rise_30 rfl (Nat.le_of_ble_eq_true rfl) rfl ?_
    refine q_iload_n hC 0 dX10_rise_31 rfl rfl ?_
    refine q_iconst hC dX10_rise_32 rfl ?_
    refine q_ic_ne hC 42 dX10_rise_33 rfl ?_ ?_
    · refine q_aload_n hC 1 dX10_rise_42 rfl rfl ?_
      refine q_getR hC (by decide) (by decide) rfl w_150 dX10_rise_43 (fun r5 => ?_)
      refine q_iload_n hC 0 dX10_rise_46 rfl rfl ?_
      refine q_iload_n hC 2 dX10_rise_47 rfl rfl ?_
      refine q_cVI hC hnt (stk := []) (as := [.int v4, .int x1]) sX0_riseFrom (ci := 0) (by decide) rfl nX0_riseFrom rfl w_637 w_639 w_640 w_149 w_638 (Nat.le_of_ble_eq_true rfl) dX10_rise_48 rfl (fun v6 => ?_)
      exact q_iret hC dX10_rise_51 (Nat.le_of_ble_eq_true rfl) (Nat.le_of_ble_eq_true rfl)
    · refine q_ldcw hC w_641 dX10_rise_36 ?_
      refine q_goto hC 51 dX10_rise_39 rfl ?_
      exact q_iret hC dX10_rise_51 (Nat.le_of_ble_eq_true rfl) (Nat.le_of_ble_eq_true rfl)
  · exact c_no
theorem sX10_rise : Snd yX10_rise (.code yX10_rise cX10_rise 4 (some .int)) rmX10_rise SX10_rise := by
  refine Snd.of lX10_rise (by decide +kernel) (fun _ => rfl) ?_
  intro Γ hC hnt hnm J hJ L a
  match L with
  | 0 => exact pX10_rise_0 hC hnt J hJ a
  | L + 1 => exact c_no
/-! SpiritWall.needRange(III)V -/
theorem dX10_needRange_0 : decode cX10_needRange 0 = .ok (.iload_n 0, 1) := by decide +kernel
theorem dX10_needRange_1 : decode cX10_needRange 1 = .ok (.iload_n 1, 1) := by decide +kernel
theorem dX10_needRange_2 : decode cX10_needRange 2 = .ok (.if_icmp .lt 8, 3) := by decide +kernel
theorem dX10_needRange_5 : decode cX10_needRange 5 = .ok (.iload_n 0, 1) := by decide +kernel
theorem dX10_needRange_6 : decode cX10_needRange 6 = .ok (.iload_n 2, 1) := by decide +kernel
theorem dX10_needRange_7 : decode cX10_needRange 7 = .ok (.if_icmp .le 14, 3) := by decide +kernel
theorem dX10_needRange_10 : decode cX10_needRange 10 = .ok (.new 207, 3) := by decide +kernel
theorem dX10_needRange_13 : decode cX10_needRange 13 = .ok (.dup, 1) := by decide +kernel
theorem dX10_needRange_14 : decode cX10_needRange 14 = .ok (.ldc_w 452, 3) := by decide +kernel
theorem dX10_needRange_17 : decode cX10_needRange 17 = .ok (.invokespecial 211, 3) := by decide +kernel
theorem dX10_needRange_20 : decode cX10_needRange 20 = .ok (.athrow, 1) := by decide +kernel
theorem dX10_needRange_21 : decode cX10_needRange 21 = .ok (.return_, 1) := by decide +kernel
def rmX10_needRange : Room := rmk 6 1 6 150
theorem nX10_needRange : nameOk yX10_needRange 3 = true := by decide +kernel
def bX10_needRange_0 (J : JT) : List Value → Sem
  | [.int x0, .int x1, .int x2] =>
    br (x0 < x1)
    (thr 2)
    (br (x0 ≤ x2)
    (rV)
    (thr 2))
  | _ => no
def bX10_needRange (J : JT) : JT := fun L a => match L with
  | 0 => bX10_needRange_0 J a
  | _ => no
def SX10_needRange : ST := mk 3 bX10_needRange
def lX10_needRange (L : Nat) (a : List Value) : Nat × Nat × Nat × List (Nat × Value) × List Value := match L with
  | 0 => (0, 0, 0, lv_args 0 a, [])
  | _ => (0, 0, 0, [], [])
theorem pX10_needRange_0 {Γ : CT} (hC : Ctx Γ "SpiritWall" cX10_needRange 3 none rmX10_needRange) (hnt : NT Γ) (J : JT) (hJ : ∀ L a, Cor Γ 3 (lX10_needRange L a).1 (lX10_needRange L a).2.1 (lX10_needRange L a).2.2.1 (lX10_needRange L a).2.2.2.1 (lX10_needRange L a).2.2.2.2 (J L a)) (a : List Value) : Cor Γ 3 0 0 0 (lv_args 0 a) [] (bX10_needRange_0 J a) := by
  unfold bX10_needRange_0
  split
  · rename_i x0 x1 x2
    refine c_sub [0, 1, 2] rfl (loc' := [(0, .int x0), (1, .int x1), (2, .int x2)]) ?_
    refine q_iload_n hC 0 dX10_needRange_0 rfl rfl ?_
    refine q_iload_n hC 1 dX10_needRange_1 rfl rfl ?_
    refine q_ic_lt hC 10 dX10_needRange_2 rfl ?_ ?_
    · exact q_throwW hC (by decide) (by decide) (by decide +kernel) (i := 24) (tx := "out of range") (by decide +kernel) hnt dX10_needRange_10 dX10_needRange_13 dX10_needRange_14 dX10_needRange_17 dX10_needRange_20 (Nat.le_of_ble_eq_true rfl) (Nat.le_of_ble_eq_true rfl) ⟨(Nat.le_of_ble_eq_true rfl), (Nat.le_of_ble_eq_true rfl)⟩
    · refine q_iload_n hC 0 dX10_needRange_5 rfl rfl ?_
      refine q_iload_n hC 2 dX10_needRange_6 rfl rfl ?_
      refine q_ic_le hC 21 dX10_needRange_7 rfl ?_ ?_
      · exact q_vret hC dX10_needRange_21 (Nat.le_of_ble_eq_true rfl) (Nat.le_of_ble_eq_true rfl)
      · exact q_throwW hC (by decide) (by decide) (by decide +kernel) (i := 24) (tx := "out of range") (by decide +kernel) hnt dX10_needRange_10 dX10_needRange_13 dX10_needRange_14 dX10_needRange_17 dX10_needRange_20 (Nat.le_of_ble_eq_true rfl) (Nat.le_of_ble_eq_true rfl) ⟨(Nat.le_of_ble_eq_true rfl), (Nat.le_of_ble_eq_true rfl)⟩
  · exact c_no
theorem sX10_needRange : Snd yX10_needRange (.code yX10_needRange cX10_needRange 3 none) rmX10_needRange SX10_needRange := by
  refine Snd.of lX10_needRange (by decide +kernel) (fun _ => rfl) ?_
  intro Γ hC hnt hnm J hJ L a
  match L with
  | 0 => exact pX10_needRange_0 hC hnt J hJ a
  | L + 1 => exact c_no
/-! SpiritWall$Edges.weightOf(I)I -/
theorem dX0_weightOf_0 : decode cX0_weightOf 0 = .ok (.aload_n 0, 1) := by decide +kernel
theorem dX0_weightOf_1 : decode cX0_weightOf 1 = .ok (.getfield 40, 3) := by decide +kernel
theorem dX0_weightOf_4 : decode cX0_weightOf 4 = .ok (.iload_n 1, 1) := by decide +kernel
theorem dX0_weightOf_5 : decode cX0_weightOf 5 = .ok (.invokestatic 102, 3) := by decide +kernel
theorem dX0_weightOf_8 : decode cX0_weightOf 8 = .ok (.ldc2_w 196, 3) := by decide +kernel
theorem dX0_weightOf_11 : decode cX0_weightOf 11 = .ok (.aload_n 0, 1) := by decide +kernel
theorem dX0_weightOf_12 : decode cX0_weightOf 12 = .ok (.getfield 37, 3) := by decide +kernel
theorem dX0_weightOf_15 : decode cX0_weightOf 15 = .ok (.iload_n 1, 1) := by decide +kernel
theorem dX0_weightOf_16 : decode cX0_weightOf 16 = .ok (.invokestatic 102, 3) := by decide +kernel
theorem dX0_weightOf_19 : decode cX0_weightOf 19 = .ok (.i2l, 1) := by decide +kernel
theorem dX0_weightOf_20 : decode cX0_weightOf 20 = .ok (.invokestatic 170, 3) := by decide +kernel
theorem dX0_weightOf_23 : decode cX0_weightOf 23 = .ok (.l2i, 1) := by decide +kernel
theorem dX0_weightOf_24 : decode cX0_weightOf 24 = .ok (.imul, 1) := by decide +kernel
theorem dX0_weightOf_25 : decode cX0_weightOf 25 = .ok (.ireturn, 1) := by decide +kernel
def rmX0_weightOf : Room := rmk 8 0 0 198
theorem nX0_weightOf : nameOk yX0_weightOf 1 = true := by decide +kernel
def bX0_weightOf_0 (J : JT) : List Value → Sem
  | [.ref x0, .int x1] =>
    gR 0 11 x0 fun r1 =>
    cI SX10_cell [.ref r1, .int x1] fun v2 =>
    gR 0 10 x0 fun r3 =>
    cI SX10_cell [.ref r3, .int x1] fun v4 =>
    cJ SX10_quotient [.long 1000000, .long (v4.toInt64)] fun v5 =>
    rI (v2 * (v5.toInt32))
  | _ => no
def bX0_weightOf (J : JT) : JT := fun L a => match L with
  | 0 => bX0_weightOf_0 J a
  | _ => no
def SX0_weightOf : ST := mk 2 bX0_weightOf
def lX0_weightOf (L : Nat) (a : List Value) : Nat × Nat × Nat × List (Nat × Value) × List Value := match L with
  | 0 => (0, 0, 0, lv_args 0 a, [])
  | _ => (0, 0, 0, [], [])
theorem pX0_weightOf_0 {Γ : CT} (hC : Ctx Γ "SpiritWall$Edges" cX0_weightOf 2 (some .int) rmX0_weightOf) (hnt : NT Γ) (J : JT) (hJ : ∀ L a, Cor Γ 2 (lX0_weightOf L a).1 (lX0_weightOf L a).2.1 (lX0_weightOf L a).2.2.1 (lX0_weightOf L a).2.2.2.1 (lX0_weightOf L a).2.2.2.2 (J L a)) (a : List Value) : Cor Γ 2 0 0 0 (lv_args 0 a) [] (bX0_weightOf_0 J a) := by
  unfold bX0_weightOf_0
  split
  · rename_i x0 x1
    refine c_sub [0, 1] rfl (loc' := [(0, .ref x0), (1, .int x1)]) ?_
    refine q_aload_n hC 0 dX0_weightOf_0 rfl rfl ?_
    refine q_getR hC (by decide) (by decide) rfl w_93 dX0_weightOf_1 (fun r1 => ?_)
    refine q_iload_n hC 1 dX0_weightOf_4 rfl rfl ?_
    refine q_cNI hC hnt (stk := []) (as := [.ref r1, .int x1]) sX10_cell nX10_cell rfl w_352 w_202 w_27 w_201 (Nat.le_of_ble_eq_true rfl) dX0_weightOf_5 rfl (fun v2 => ?_)
    refine q_ldc2 hC w_642 dX0_weightOf_8 ?_
    refine q_aload_n hC 0 dX0_weightOf_11 rfl rfl ?_
    refine q_getR hC (by decide) (by decide) rfl w_92 dX0_weightOf_12 (fun r3 => ?_)
    refine q_iload_n hC 1 dX0_weightOf_15 rfl rfl ?_
    refine q_cNI hC hnt (stk := [.long 1000000, .int v2]) (as := [.ref r3, .int x1]) sX10_cell nX10_cell rfl w_352 w_202 w_27 w_201 (Nat.le_of_ble_eq_true rfl) dX0_weightOf_16 rfl (fun v4 => ?_)
    refine q_i2l hC dX0_weightOf_19 ?_
    refine q_cNJ hC hnt (stk := [.int v2]) (as := [.long 1000000, .long (v4.toInt64)]) sX10_quotient nX10_quotient rfl w_358 w_360 w_27 w_359 (Nat.le_of_ble_eq_true rfl) dX0_weightOf_20 rfl (fun v5 => ?_)
    refine q_l2i hC dX0_weightOf_23 ?_
    refine q_imul hC dX0_weightOf_24 ?_
    exact q_iret hC dX0_weightOf_25 (Nat.le_of_ble_eq_true rfl) (Nat.le_of_ble_eq_true rfl)
  · exact c_no
theorem sX0_weightOf : Snd yX0_weightOf (.code yX0_weightOf cX0_weightOf 2 (some .int)) rmX0_weightOf SX0_weightOf := by
  refine Snd.of lX0_weightOf (by decide +kernel) (fun _ => rfl) ?_
  intro Γ hC hnt hnm J hJ L a
  match L with
  | 0 => exact pX0_weightOf_0 hC hnt J hJ a
  | L + 1 => exact c_no
/-! SpiritWall$Edges.spreadOf(I)I -/
theorem dX0_spreadOf_0 : decode cX0_spreadOf 0 = .ok (.iconst 0, 1) := by decide +kernel
theorem dX0_spreadOf_1 : decode cX0_spreadOf 1 = .ok (.istore_n 2, 1) := by decide +kernel
theorem dX0_spreadOf_2 : decode cX0_spreadOf 2 = .ok (.iconst 0, 1) := by decide +kernel
theorem dX0_spreadOf_3 : decode cX0_spreadOf 3 = .ok (.istore_n 3, 1) := by decide +kernel
theorem dX0_spreadOf_4 : decode cX0_spreadOf 4 = .ok (.iconst 0, 1) := by decide +kernel
theorem dX0_spreadOf_5 : decode cX0_spreadOf 5 = .ok (.istore 4, 2) := by decide +kernel
theorem dX0_spreadOf_7 : decode cX0_spreadOf 7 = .ok (.iconst 0, 1) := by decide +kernel
theorem dX0_spreadOf_8 : decode cX0_spreadOf 8 = .ok (.istore 5, 2) := by decide +kernel
theorem dX0_spreadOf_10 : decode cX0_spreadOf 10 = .ok (.iload 5, 2) := by decide +kernel
theorem dX0_spreadOf_12 : decode cX0_spreadOf 12 = .ok (.aload_n 0, 1) := by decide +kernel
theorem dX0_spreadOf_13 : decode cX0_spreadOf 13 = .ok (.getfield 62, 3) := by decide +kernel
theorem dX0_spreadOf_16 : decode cX0_spreadOf 16 = .ok (.getfield 97, 3) := by decide +kernel
theorem dX0_spreadOf_19 : decode cX0_spreadOf 19 = .ok (.if_icmp .ge 87, 3) := by decide +kernel
theorem dX0_spreadOf_22 : decode cX0_spreadOf 22 = .ok (.aload_n 0, 1) := by decide +kernel
theorem dX0_spreadOf_23 : decode cX0_spreadOf 23 = .ok (.getfield 62, 3) := by decide +kernel
theorem dX0_spreadOf_26 : decode cX0_spreadOf 26 = .ok (.iload 5, 2) := by decide +kernel
theorem dX0_spreadOf_28 : decode cX0_spreadOf 28 = .ok (.invokevirtual 142, 3) := by decide +kernel
theorem dX0_spreadOf_31 : decode cX0_spreadOf 31 = .ok (.ifCond .eq 69, 3) := by decide +kernel
theorem dX0_spreadOf_34 : decode cX0_spreadOf 34 = .ok (.aload_n 0, 1) := by decide +kernel
theorem dX0_spreadOf_35 : decode cX0_spreadOf 35 = .ok (.iload 5, 2) := by decide +kernel
theorem dX0_spreadOf_37 : decode cX0_spreadOf 37 = .ok (.invokevirtual 155, 3) := by decide +kernel
theorem dX0_spreadOf_40 : decode cX0_spreadOf 40 = .ok (.iload_n 1, 1) := by decide +kernel
theorem dX0_spreadOf_41 : decode cX0_spreadOf 41 = .ok (.if_icmp .eq 6, 3) := by decide +kernel
theorem dX0_spreadOf_44 : decode cX0_spreadOf 44 = .ok (.goto 56, 3) := by decide +kernel
theorem dX0_spreadOf_47 : decode cX0_spreadOf 47 = .ok (.aload_n 0, 1) := by decide +kernel
theorem dX0_spreadOf_48 : decode cX0_spreadOf 48 = .ok (.iload 5, 2) := by decide +kernel
theorem dX0_spreadOf_50 : decode cX0_spreadOf 50 = .ok (.aload_n 0, 1) := by decide +kernel
theorem dX0_spreadOf_51 : decode cX0_spreadOf 51 = .ok (.iload 5, 2) := by decide +kernel
theorem dX0_spreadOf_53 : decode cX0_spreadOf 53 = .ok (.invokevirtual 167, 3) := by decide +kernel
theorem dX0_spreadOf_56 : decode cX0_spreadOf 56 = .ok (.invokevirtual 161, 3) := by decide +kernel
theorem dX0_spreadOf_59 : decode cX0_spreadOf 59 = .ok (.istore 6, 2) := by decide +kernel
theorem dX0_spreadOf_61 : decode cX0_spreadOf 61 = .ok (.iload_n 2, 1) := by decide +kernel
theorem dX0_spreadOf_62 : decode cX0_spreadOf 62 = .ok (.ifCond .eq 13, 3) := by decide +kernel
theorem dX0_spreadOf_65 : decode cX0_spreadOf 65 = .ok (.iload_n 3, 1) := by decide +kernel
theorem dX0_spreadOf_66 : decode cX0_spreadOf 66 = .ok (.iload 6, 2) := by decide +kernel
theorem dX0_spreadOf_68 : decode cX0_spreadOf 68 = .ok (.if_icmp .gt 7, 3) := by decide +kernel
theorem dX0_spreadOf_71 : decode cX0_spreadOf 71 = .ok (.iload_n 3, 1) := by decide +kernel
theorem dX0_spreadOf_72 : decode cX0_spreadOf 72 = .ok (.goto 5, 3) := by decide +kernel
theorem dX0_spreadOf_75 : decode cX0_spreadOf 75 = .ok (.iload 6, 2) := by decide +kernel
theorem dX0_spreadOf_77 : decode cX0_spreadOf 77 = .ok (.istore_n 3, 1) := by decide +kernel
theorem dX0_spreadOf_78 : decode cX0_spreadOf 78 = .ok (.iload_n 2, 1) := by decide +kernel
theorem dX0_spreadOf_79 : decode cX0_spreadOf 79 = .ok (.ifCond .eq 15, 3) := by decide +kernel
theorem dX0_spreadOf_82 : decode cX0_spreadOf 82 = .ok (.iload 4, 2) := by decide +kernel
theorem dX0_spreadOf_84 : decode cX0_spreadOf 84 = .ok (.iload 6, 2) := by decide +kernel
theorem dX0_spreadOf_86 : decode cX0_spreadOf 86 = .ok (.if_icmp .lt 8, 3) := by decide +kernel
theorem dX0_spreadOf_89 : decode cX0_spreadOf 89 = .ok (.iload 4, 2) := by decide +kernel
theorem dX0_spreadOf_91 : decode cX0_spreadOf 91 = .ok (.goto 5, 3) := by decide +kernel
theorem dX0_spreadOf_94 : decode cX0_spreadOf 94 = .ok (.iload 6, 2) := by decide +kernel
theorem dX0_spreadOf_96 : decode cX0_spreadOf 96 = .ok (.istore 4, 2) := by decide +kernel
theorem dX0_spreadOf_98 : decode cX0_spreadOf 98 = .ok (.iconst 1, 1) := by decide +kernel
theorem dX0_spreadOf_99 : decode cX0_spreadOf 99 = .ok (.istore_n 2, 1) := by decide +kernel
theorem dX0_spreadOf_100 : decode cX0_spreadOf 100 = .ok (.iinc 5 1, 3) := by decide +kernel
theorem dX0_spreadOf_103 : decode cX0_spreadOf 103 = .ok (.goto (-93), 3) := by decide +kernel
theorem dX0_spreadOf_106 : decode cX0_spreadOf 106 = .ok (.iload 4, 2) := by decide +kernel
theorem dX0_spreadOf_108 : decode cX0_spreadOf 108 = .ok (.iload_n 3, 1) := by decide +kernel
theorem dX0_spreadOf_109 : decode cX0_spreadOf 109 = .ok (.isub, 1) := by decide +kernel
theorem dX0_spreadOf_110 : decode cX0_spreadOf 110 = .ok (.ireturn, 1) := by decide +kernel
def rmX0_spreadOf : Room := rmk 9 0 0 214
theorem nX0_spreadOf : nameOk yX0_spreadOf 1 = true := by decide +kernel
def bX0_spreadOf_0 (J : JT) : List Value → Sem
  | [.ref x0, .int x1] =>
    J 1 [.ref x0, .int x1, .int 0, .int 0, .int 0, .int 0]
  | _ => no
def bX0_spreadOf_1 (J : JT) : List Value → Sem
  | [.ref x0, .int x1, .int x2, .int x3, .int x4, .int x5] =>
    gR 0 1 x0 fun r1 =>
    gI 6 6 r1 fun v2 =>
    br (v2 ≤ x5)
    (rI (x4 - x3))
    (gR 0 1 x0 fun r3 =>
    ob 6 r3 (cI SX6_counts [.ref r3, .int x5] fun v4 =>
    br (v4 = 0)
    (J 1 [.ref x0, .int x1, .int x2, .int x3, .int x4, .int (x5 + 1)])
    (ob 0 x0 (cI SX0_edgeOf [.ref x0, .int x5] fun v5 =>
    br (v5 = x1)
    (ob 0 x0 (cI SX0_sightRise [.ref x0, .int x5] fun v6 =>
    ob 0 x0 (cI SX0_fromLesser [.ref x0, .int x5, .int v6] fun v7 =>
    br (x2 = 0)
    (J 2 [.ref x0, .int x1, .int x2, .int x4, .int x5, .int v7])
    (br (v7 < x3)
    (J 2 [.ref x0, .int x1, .int x2, .int x4, .int x5, .int v7])
    (br (x2 = 0)
    (J 1 [.ref x0, .int x1, .int 1, .int x3, .int v7, .int (x5 + 1)])
    (br (x4 < v7)
    (J 1 [.ref x0, .int x1, .int 1, .int x3, .int v7, .int (x5 + 1)])
    (J 1 [.ref x0, .int x1, .int 1, .int x3, .int x4, .int (x5 + 1)])))))))
    (J 1 [.ref x0, .int x1, .int x2, .int x3, .int x4, .int (x5 + 1)])))))
  | _ => no
def bX0_spreadOf_2 (J : JT) : List Value → Sem
  | [.ref x0, .int x1, .int x2, .int x4, .int x5, .int x6] =>
    br (x2 = 0)
    (J 1 [.ref x0, .int x1, .int 1, .int x6, .int x6, .int (x5 + 1)])
    (br (x4 < x6)
    (J 1 [.ref x0, .int x1, .int 1, .int x6, .int x6, .int (x5 + 1)])
    (J 1 [.ref x0, .int x1, .int 1, .int x6, .int x4, .int (x5 + 1)]))
  | _ => no
def bX0_spreadOf (J : JT) : JT := fun L a => match L with
  | 0 => bX0_spreadOf_0 J a
  | 1 => bX0_spreadOf_1 J a
  | 2 => bX0_spreadOf_2 J a
  | _ => no
def SX0_spreadOf : ST := mk 7 bX0_spreadOf
def lX0_spreadOf (L : Nat) (a : List Value) : Nat × Nat × Nat × List (Nat × Value) × List Value := match L with
  | 0 => (0, 0, 0, lv_args 0 a, [])
  | 1 => (0, 0, 10, List.zip [0, 1, 2, 3, 4, 5] a, [])
  | 2 => (0, 0, 75, List.zip [0, 1, 2, 4, 5, 6] a, [])
  | _ => (0, 0, 0, [], [])
theorem pX0_spreadOf_0 {Γ : CT} (hC : Ctx Γ "SpiritWall$Edges" cX0_spreadOf 7 (some .int) rmX0_spreadOf) (hnt : NT Γ) (J : JT) (hJ : ∀ L a, Cor Γ 7 (lX0_spreadOf L a).1 (lX0_spreadOf L a).2.1 (lX0_spreadOf L a).2.2.1 (lX0_spreadOf L a).2.2.2.1 (lX0_spreadOf L a).2.2.2.2 (J L a)) (a : List Value) : Cor Γ 7 0 0 0 (lv_args 0 a) [] (bX0_spreadOf_0 J a) := by
  unfold bX0_spreadOf_0
  split
  · rename_i x0 x1
    refine c_sub [0, 1] rfl (loc' := [(0, .ref x0), (1, .int x1)]) ?_
    refine q_iconst hC dX0_spreadOf_0 rfl ?_
    refine q_istore_nA hC (loc' := [(2, .int 0), (0, .ref x0), (1, .int x1)]) dX0_spreadOf_1 rfl (Nat.le_of_ble_eq_true rfl) rfl ?_
    refine q_iconst hC dX0_spreadOf_2 rfl ?_
    refine q_istore_nA hC (loc' := [(3, .int 0), (2, .int 0), (0, .ref x0), (1, .int x1)]) dX0_spreadOf_3 rfl (Nat.le_of_ble_eq_true rfl) rfl ?_
    refine q_iconst hC dX0_spreadOf_4 rfl ?_
    refine q_istoreA hC (loc' := [(4, .int 0), (3, .int 0), (2, .int 0), (0, .ref x0), (1, .int x1)]) dX0_spreadOf_5 (Nat.le_of_ble_eq_true rfl) rfl ?_
    refine q_iconst hC dX0_spreadOf_7 rfl ?_
    refine q_istoreA hC (loc' := [(5, .int 0), (4, .int 0), (3, .int 0), (2, .int 0), (0, .ref x0), (1, .int x1)]) dX0_spreadOf_8 (Nat.le_of_ble_eq_true rfl) rfl ?_
    exact c_sub [4, 5, 3, 2, 1, 0] rfl (hJ 1 [.ref x0, .int x1, .int 0, .int 0, .int 0, .int 0])
  · exact c_no
theorem pX0_spreadOf_1 {Γ : CT} (hC : Ctx Γ "SpiritWall$Edges" cX0_spreadOf 7 (some .int) rmX0_spreadOf) (hnt : NT Γ) (J : JT) (hJ : ∀ L a, Cor Γ 7 (lX0_spreadOf L a).1 (lX0_spreadOf L a).2.1 (lX0_spreadOf L a).2.2.1 (lX0_spreadOf L a).2.2.2.1 (lX0_spreadOf L a).2.2.2.2 (J L a)) (a : List Value) : Cor Γ 7 0 0 10 (List.zip [0, 1, 2, 3, 4, 5] a) [] (bX0_spreadOf_1 J a) := by
  unfold bX0_spreadOf_1
  split
  · rename_i x0 x1 x2 x3 x4 x5
    refine c_sub [0, 1, 2, 3, 4, 5] rfl (loc' := [(0, .ref x0), (1, .int x1), (2, .int x2), (3, .int x3), (4, .int x4), (5, .int x5)]) ?_
    refine q_iload hC 5 dX0_spreadOf_10 rfl ?_
    refine q_aload_n hC 0 dX0_spreadOf_12 rfl rfl ?_
    refine q_getR hC (by decide) (by decide) rfl w_100 dX0_spreadOf_13 (fun r1 => ?_)
    refine q_getI hC (by decide) (by decide) rfl w_366 dX0_spreadOf_16 (fun v2 => ?_)
    refine q_ic_ge hC 106 dX0_spreadOf_19 rfl ?_ ?_
    · refine q_iload hC 4 dX0_spreadOf_106 rfl ?_
      refine q_iload_n hC 3 dX0_spreadOf_108 rfl rfl ?_
      refine q_isub hC dX0_spreadOf_109 ?_
      exact q_iret hC dX0_spreadOf_110 (Nat.le_of_ble_eq_true rfl) (Nat.le_of_ble_eq_true rfl)
    · refine q_aload_n hC 0 dX0_spreadOf_22 rfl rfl ?_
      refine q_getR hC (by decide) (by decide) rfl w_100 dX0_spreadOf_23 (fun r3 => ?_)
      refine q_iload hC 5 dX0_spreadOf_26 rfl ?_
      refine q_cVI hC hnt (stk := []) (as := [.int x5]) sX6_counts (ci := 6) (by decide) rfl nX6_counts rfl w_392 w_394 w_395 w_35 w_393 (Nat.le_of_ble_eq_true rfl) dX0_spreadOf_28 rfl (fun v4 => ?_)
      refine q_if_eq hC 100 dX0_spreadOf_31 rfl ?_ ?_
      · refine q_iincA hC (loc' := [(5, .int (x5 + 1)), (0, .ref x0), (1, .int x1), (2, .int x2), (3, .int x3), (4, .int x4)]) 5 1 dX0_spreadOf_100 rfl rfl (Nat.le_of_ble_eq_true rfl) rfl ?_
        refine q_goto hC 10 dX0_spreadOf_103 rfl ?_
        exact c_sub [1, 2, 3, 4, 5, 0] rfl (hJ 1 [.ref x0, .int x1, .int x2, .int x3, .int x4, .int (x5 + 1)])
      · refine q_aload_n hC 0 dX0_spreadOf_34 rfl rfl ?_
        refine q_iload hC 5 dX0_spreadOf_35 rfl ?_
        refine q_cVI hC hnt (stk := []) (as := [.int x5]) sX0_edgeOf (ci := 0) (by decide) rfl nX0_edgeOf rfl w_410 w_412 w_413 w_149 w_411 (Nat.le_of_ble_eq_true rfl) dX0_spreadOf_37 rfl (fun v5 => ?_)
        refine q_iload_n hC 1 dX0_spreadOf_40 rfl rfl ?_
        refine q_ic_eq hC 47 dX0_spreadOf_41 rfl ?_ ?_
        · refine q_aload_n hC 0 dX0_spreadOf_47 rfl rfl ?_
          refine q_iload hC 5 dX0_spreadOf_48 rfl ?_
          refine q_aload_n hC 0 dX0_spreadOf_50 rfl rfl ?_
          refine q_iload hC 5 dX0_spreadOf_51 rfl ?_
          refine q_cVI hC hnt (stk := [.int x5, .ref x0]) (as := [.int x5]) sX0_sightRise (ci := 0) (by decide) rfl nX0_sightRise rfl w_435 w_437 w_438 w_149 w_436 (Nat.le_of_ble_eq_true rfl) dX0_spreadOf_53 rfl (fun v6 => ?_)
          refine q_cVI hC hnt (stk := []) (as := [.int x5, .int v6]) sX0_fromLesser (ci := 0) (by decide) rfl nX0_fromLesser rfl w_417 w_419 w_420 w_149 w_418 (Nat.le_of_ble_eq_true rfl) dX0_spreadOf_56 rfl (fun v7 => ?_)
          refine q_istoreA hC (loc' := [(6, .int v7), (0, .ref x0), (1, .int x1), (2, .int x2), (3, .int x3), (4, .int x4), (5, .int x5)]) dX0_spreadOf_59 (Nat.le_of_ble_eq_true rfl) rfl ?_
          refine q_iload_n hC 3 dX0_spreadOf_61 rfl rfl ?_
          refine q_if_eq hC 75 dX0_spreadOf_62 rfl ?_ ?_
          · exact c_sub [1, 2, 3, 5, 6, 0] rfl (hJ 2 [.ref x0, .int x1, .int x2, .int x4, .int x5, .int v7])
          · refine q_iload_n hC 4 dX0_spreadOf_65 rfl rfl ?_
            refine q_iload hC 0 dX0_spreadOf_66 rfl ?_
            refine q_ic_gt hC 75 dX0_spreadOf_68 rfl ?_ ?_
            · exact c_sub [1, 2, 3, 5, 6, 0] rfl (hJ 2 [.ref x0, .int x1, .int x2, .int x4, .int x5, .int v7])
            · refine q_iload_n hC 4 dX0_spreadOf_71 rfl rfl ?_
              refine q_goto hC 77 dX0_spreadOf_72 rfl ?_
              refine q_istore_nA hC (loc' := [(3, .int x3), (6, .int v7), (0, .ref x0), (1, .int x1), (2, .int x2), (4, .int x4), (5, .int x5)]) dX0_spreadOf_77 rfl (Nat.le_of_ble_eq_true rfl) rfl ?_
              refine q_iload_n hC 4 dX0_spreadOf_78 rfl rfl ?_
              refine q_if_eq hC 94 dX0_spreadOf_79 rfl ?_ ?_
              · refine q_iload hC 1 dX0_spreadOf_94 rfl ?_
                refine q_istoreA hC (loc' := [(4, .int v7), (3, .int x3), (6, .int v7), (0, .ref x0), (1, .int x1), (2, .int x2), (5, .int x5)]) dX0_spreadOf_96 (Nat.le_of_ble_eq_true rfl) rfl ?_
                refine q_iconst hC dX0_spreadOf_98 rfl ?_
                refine q_istore_nA hC (loc' := [(2, .int 1), (4, .int v7), (3, .int x3), (6, .int v7), (0, .ref x0), (1, .int x1), (5, .int x5)]) dX0_spreadOf_99 rfl (Nat.le_of_ble_eq_true rfl) rfl ?_
                refine q_iincA hC (loc' := [(5, .int (x5 + 1)), (2, .int 1), (4, .int v7), (3, .int x3), (6, .int v7), (0, .ref x0), (1, .int x1)]) 6 1 dX0_spreadOf_100 rfl rfl (Nat.le_of_ble_eq_true rfl) rfl ?_
                refine q_goto hC 10 dX0_spreadOf_103 rfl ?_
                exact c_sub [5, 6, 1, 3, 2, 0] rfl (hJ 1 [.ref x0, .int x1, .int 1, .int x3, .int v7, .int (x5 + 1)])
              · refine q_iload hC 5 dX0_spreadOf_82 rfl ?_
                refine q_iload hC 1 dX0_spreadOf_84 rfl ?_
                refine q_ic_lt hC 94 dX0_spreadOf_86 rfl ?_ ?_
                · refine q_iload hC 1 dX0_spreadOf_94 rfl ?_
                  refine q_istoreA hC (loc' := [(4, .int v7), (3, .int x3), (6, .int v7), (0, .ref x0), (1, .int x1), (2, .int x2), (5, .int x5)]) dX0_spreadOf_96 (Nat.le_of_ble_eq_true rfl) rfl ?_
                  refine q_iconst hC dX0_spreadOf_98 rfl ?_
                  refine q_istore_nA hC (loc' := [(2, .int 1), (4, .int v7), (3, .int x3), (6, .int v7), (0, .ref x0), (1, .int x1), (5, .int x5)]) dX0_spreadOf_99 rfl (Nat.le_of_ble_eq_true rfl) rfl ?_
                  refine q_iincA hC (loc' := [(5, .int (x5 + 1)), (2, .int 1), (4, .int v7), (3, .int x3), (6, .int v7), (0, .ref x0), (1, .int x1)]) 6 1 dX0_spreadOf_100 rfl rfl (Nat.le_of_ble_eq_true rfl) rfl ?_
                  refine q_goto hC 10 dX0_spreadOf_103 rfl ?_
                  exact c_sub [5, 6, 1, 3, 2, 0] rfl (hJ 1 [.ref x0, .int x1, .int 1, .int x3, .int v7, .int (x5 + 1)])
                · refine q_iload hC 5 dX0_spreadOf_89 rfl ?_
                  refine q_goto hC 96 dX0_spreadOf_91 rfl ?_
                  refine q_istoreA hC (loc' := [(4, .int x4), (3, .int x3), (6, .int v7), (0, .ref x0), (1, .int x1), (2, .int x2), (5, .int x5)]) dX0_spreadOf_96 (Nat.le_of_ble_eq_true rfl) rfl ?_
                  refine q_iconst hC dX0_spreadOf_98 rfl ?_
                  refine q_istore_nA hC (loc' := [(2, .int 1), (4, .int x4), (3, .int x3), (6, .int v7), (0, .ref x0), (1, .int x1), (5, .int x5)]) dX0_spreadOf_99 rfl (Nat.le_of_ble_eq_true rfl) rfl ?_
                  refine q_iincA hC (loc' := [(5, .int (x5 + 1)), (2, .int 1), (4, .int x4), (3, .int x3), (6, .int v7), (0, .ref x0), (1, .int x1)]) 6 1 dX0_spreadOf_100 rfl rfl (Nat.le_of_ble_eq_true rfl) rfl ?_
                  refine q_goto hC 10 dX0_spreadOf_103 rfl ?_
                  exact c_sub [5, 6, 1, 3, 2, 0] rfl (hJ 1 [.ref x0, .int x1, .int 1, .int x3, .int x4, .int (x5 + 1)])
        · refine q_goto hC 100 dX0_spreadOf_44 rfl ?_
          refine q_iincA hC (loc' := [(5, .int (x5 + 1)), (0, .ref x0), (1, .int x1), (2, .int x2), (3, .int x3), (4, .int x4)]) 5 1 dX0_spreadOf_100 rfl rfl (Nat.le_of_ble_eq_true rfl) rfl ?_
          refine q_goto hC 10 dX0_spreadOf_103 rfl ?_
          exact c_sub [1, 2, 3, 4, 5, 0] rfl (hJ 1 [.ref x0, .int x1, .int x2, .int x3, .int x4, .int (x5 + 1)])
  · exact c_no
theorem pX0_spreadOf_2 {Γ : CT} (hC : Ctx Γ "SpiritWall$Edges" cX0_spreadOf 7 (some .int) rmX0_spreadOf) (hnt : NT Γ) (J : JT) (hJ : ∀ L a, Cor Γ 7 (lX0_spreadOf L a).1 (lX0_spreadOf L a).2.1 (lX0_spreadOf L a).2.2.1 (lX0_spreadOf L a).2.2.2.1 (lX0_spreadOf L a).2.2.2.2 (J L a)) (a : List Value) : Cor Γ 7 0 0 75 (List.zip [0, 1, 2, 4, 5, 6] a) [] (bX0_spreadOf_2 J a) := by
  unfold bX0_spreadOf_2
  split
  · rename_i x0 x1 x2 x4 x5 x6
    refine c_sub [0, 1, 2, 3, 4, 5] rfl (loc' := [(0, .ref x0), (1, .int x1), (2, .int x2), (4, .int x4), (5, .int x5), (6, .int x6)]) ?_
    refine q_iload hC 5 dX0_spreadOf_75 rfl ?_
    refine q_istore_nA hC (loc' := [(3, .int x6), (0, .ref x0), (1, .int x1), (2, .int x2), (4, .int x4), (5, .int x5), (6, .int x6)]) dX0_spreadOf_77 rfl (Nat.le_of_ble_eq_true rfl) rfl ?_
    refine q_iload_n hC 3 dX0_spreadOf_78 rfl rfl ?_
    refine q_if_eq hC 94 dX0_spreadOf_79 rfl ?_ ?_
    · refine q_iload hC 6 dX0_spreadOf_94 rfl ?_
      refine q_istoreA hC (loc' := [(4, .int x6), (3, .int x6), (0, .ref x0), (1, .int x1), (2, .int x2), (5, .int x5), (6, .int x6)]) dX0_spreadOf_96 (Nat.le_of_ble_eq_true rfl) rfl ?_
      refine q_iconst hC dX0_spreadOf_98 rfl ?_
      refine q_istore_nA hC (loc' := [(2, .int 1), (4, .int x6), (3, .int x6), (0, .ref x0), (1, .int x1), (5, .int x5), (6, .int x6)]) dX0_spreadOf_99 rfl (Nat.le_of_ble_eq_true rfl) rfl ?_
      refine q_iincA hC (loc' := [(5, .int (x5 + 1)), (2, .int 1), (4, .int x6), (3, .int x6), (0, .ref x0), (1, .int x1), (6, .int x6)]) 5 1 dX0_spreadOf_100 rfl rfl (Nat.le_of_ble_eq_true rfl) rfl ?_
      refine q_goto hC 10 dX0_spreadOf_103 rfl ?_
      exact c_sub [4, 5, 1, 3, 2, 0] rfl (hJ 1 [.ref x0, .int x1, .int 1, .int x6, .int x6, .int (x5 + 1)])
    · refine q_iload hC 4 dX0_spreadOf_82 rfl ?_
      refine q_iload hC 6 dX0_spreadOf_84 rfl ?_
      refine q_ic_lt hC 94 dX0_spreadOf_86 rfl ?_ ?_
      · refine q_iload hC 6 dX0_spreadOf_94 rfl ?_
        refine q_istoreA hC (loc' := [(4, .int x6), (3, .int x6), (0, .ref x0), (1, .int x1), (2, .int x2), (5, .int x5), (6, .int x6)]) dX0_spreadOf_96 (Nat.le_of_ble_eq_true rfl) rfl ?_
        refine q_iconst hC dX0_spreadOf_98 rfl ?_
        refine q_istore_nA hC (loc' := [(2, .int 1), (4, .int x6), (3, .int x6), (0, .ref x0), (1, .int x1), (5, .int x5), (6, .int x6)]) dX0_spreadOf_99 rfl (Nat.le_of_ble_eq_true rfl) rfl ?_
        refine q_iincA hC (loc' := [(5, .int (x5 + 1)), (2, .int 1), (4, .int x6), (3, .int x6), (0, .ref x0), (1, .int x1), (6, .int x6)]) 5 1 dX0_spreadOf_100 rfl rfl (Nat.le_of_ble_eq_true rfl) rfl ?_
        refine q_goto hC 10 dX0_spreadOf_103 rfl ?_
        exact c_sub [4, 5, 1, 3, 2, 0] rfl (hJ 1 [.ref x0, .int x1, .int 1, .int x6, .int x6, .int (x5 + 1)])
      · refine q_iload hC 4 dX0_spreadOf_89 rfl ?_
        refine q_goto hC 96 dX0_spreadOf_91 rfl ?_
        refine q_istoreA hC (loc' := [(4, .int x4), (3, .int x6), (0, .ref x0), (1, .int x1), (2, .int x2), (5, .int x5), (6, .int x6)]) dX0_spreadOf_96 (Nat.le_of_ble_eq_true rfl) rfl ?_
        refine q_iconst hC dX0_spreadOf_98 rfl ?_
        refine q_istore_nA hC (loc' := [(2, .int 1), (4, .int x4), (3, .int x6), (0, .ref x0), (1, .int x1), (5, .int x5), (6, .int x6)]) dX0_spreadOf_99 rfl (Nat.le_of_ble_eq_true rfl) rfl ?_
        refine q_iincA hC (loc' := [(5, .int (x5 + 1)), (2, .int 1), (4, .int x4), (3, .int x6), (0, .ref x0), (1, .int x1), (6, .int x6)]) 5 1 dX0_spreadOf_100 rfl rfl (Nat.le_of_ble_eq_true rfl) rfl ?_
        refine q_goto hC 10 dX0_spreadOf_103 rfl ?_
        exact c_sub [4, 5, 1, 3, 2, 0] rfl (hJ 1 [.ref x0, .int x1, .int 1, .int x6, .int x4, .int (x5 + 1)])
  · exact c_no
theorem sX0_spreadOf : Snd yX0_spreadOf (.code yX0_spreadOf cX0_spreadOf 7 (some .int)) rmX0_spreadOf SX0_spreadOf := by
  refine Snd.of lX0_spreadOf (by decide +kernel) (fun _ => rfl) ?_
  intro Γ hC hnt hnm J hJ L a
  match L with
  | 0 => exact pX0_spreadOf_0 hC hnt J hJ a
  | 1 => exact pX0_spreadOf_1 hC hnt J hJ a
  | 2 => exact pX0_spreadOf_2 hC hnt J hJ a
  | L + 3 => exact c_no
/-! SpiritWall.edge(III)I -/
theorem dX10_edge_0 : decode cX10_edge 0 = .ok (.aload_n 0, 1) := by decide +kernel
theorem dX10_edge_1 : decode cX10_edge 1 = .ok (.iload_n 1, 1) := by decide +kernel
theorem dX10_edge_2 : decode cX10_edge 2 = .ok (.invokevirtual 170, 3) := by decide +kernel
theorem dX10_edge_5 : decode cX10_edge 5 = .ok (.aload_n 0, 1) := by decide +kernel
theorem dX10_edge_6 : decode cX10_edge 6 = .ok (.iload_n 2, 1) := by decide +kernel
theorem dX10_edge_7 : decode cX10_edge 7 = .ok (.invokevirtual 170, 3) := by decide +kernel
theorem dX10_edge_10 : decode cX10_edge 10 = .ok (.iload_n 3, 1) := by decide +kernel
theorem dX10_edge_11 : decode cX10_edge 11 = .ok (.iconst 0, 1) := by decide +kernel
theorem dX10_edge_12 : decode cX10_edge 12 = .ok (.bipush 6, 2) := by decide +kernel
theorem dX10_edge_14 : decode cX10_edge 14 = .ok (.invokestatic 260, 3) := by decide +kernel
theorem dX10_edge_17 : decode cX10_edge 17 = .ok (.aload_n 0, 1) := by decide +kernel
theorem dX10_edge_18 : decode cX10_edge 18 = .ok (.aload_n 0, 1) := by decide +kernel
theorem dX10_edge_19 : decode cX10_edge 19 = .ok (.getfield 31, 3) := by decide +kernel
theorem dX10_edge_22 : decode cX10_edge 22 = .ok (.invokevirtual 135, 3) := by decide +kernel
theorem dX10_edge_25 : decode cX10_edge 25 = .ok (.aload_n 0, 1) := by decide +kernel
theorem dX10_edge_26 : decode cX10_edge 26 = .ok (.getfield 62, 3) := by decide +kernel
theorem dX10_edge_29 : decode cX10_edge 29 = .ok (.iload_n 1, 1) := by decide +kernel
theorem dX10_edge_30 : decode cX10_edge 30 = .ok (.iload_n 2, 1) := by decide +kernel
theorem dX10_edge_31 : decode cX10_edge 31 = .ok (.invokevirtual 173, 3) := by decide +kernel
theorem dX10_edge_34 : decode cX10_edge 34 = .ok (.istore 4, 2) := by decide +kernel
theorem dX10_edge_36 : decode cX10_edge 36 = .ok (.iload 4, 2) := by decide +kernel
theorem dX10_edge_38 : decode cX10_edge 38 = .ok (.iconst (-1), 1) := by decide +kernel
theorem dX10_edge_39 : decode cX10_edge 39 = .ok (.if_icmp .ne 5, 3) := by decide +kernel
theorem dX10_edge_42 : decode cX10_edge 42 = .ok (.iconst (-1), 1) := by decide +kernel
theorem dX10_edge_43 : decode cX10_edge 43 = .ok (.ireturn, 1) := by decide +kernel
theorem dX10_edge_44 : decode cX10_edge 44 = .ok (.iload_n 3, 1) := by decide +kernel
theorem dX10_edge_45 : decode cX10_edge 45 = .ok (.tableswitch 114 0 5 #[39, 52, 65, 75, 88, 101], 39) := by decide +kernel
theorem dX10_edge_84 : decode cX10_edge 84 = .ok (.aload_n 0, 1) := by decide +kernel
theorem dX10_edge_85 : decode cX10_edge 85 = .ok (.getfield 62, 3) := by decide +kernel
theorem dX10_edge_88 : decode cX10_edge 88 = .ok (.getfield 264, 3) := by decide +kernel
theorem dX10_edge_91 : decode cX10_edge 91 = .ok (.iload 4, 2) := by decide +kernel
theorem dX10_edge_93 : decode cX10_edge 93 = .ok (.invokestatic 190, 3) := by decide +kernel
theorem dX10_edge_96 : decode cX10_edge 96 = .ok (.ireturn, 1) := by decide +kernel
theorem dX10_edge_97 : decode cX10_edge 97 = .ok (.aload_n 0, 1) := by decide +kernel
theorem dX10_edge_98 : decode cX10_edge 98 = .ok (.getfield 62, 3) := by decide +kernel
theorem dX10_edge_101 : decode cX10_edge 101 = .ok (.getfield 266, 3) := by decide +kernel
theorem dX10_edge_104 : decode cX10_edge 104 = .ok (.iload 4, 2) := by decide +kernel
theorem dX10_edge_106 : decode cX10_edge 106 = .ok (.invokestatic 190, 3) := by decide +kernel
theorem dX10_edge_109 : decode cX10_edge 109 = .ok (.ireturn, 1) := by decide +kernel
theorem dX10_edge_110 : decode cX10_edge 110 = .ok (.aload_n 0, 1) := by decide +kernel
theorem dX10_edge_111 : decode cX10_edge 111 = .ok (.getfield 62, 3) := by decide +kernel
theorem dX10_edge_114 : decode cX10_edge 114 = .ok (.iload 4, 2) := by decide +kernel
theorem dX10_edge_116 : decode cX10_edge 116 = .ok (.invokevirtual 269, 3) := by decide +kernel
theorem dX10_edge_119 : decode cX10_edge 119 = .ok (.ireturn, 1) := by decide +kernel
theorem dX10_edge_120 : decode cX10_edge 120 = .ok (.aload_n 0, 1) := by decide +kernel
theorem dX10_edge_121 : decode cX10_edge 121 = .ok (.getfield 71, 3) := by decide +kernel
theorem dX10_edge_124 : decode cX10_edge 124 = .ok (.getfield 272, 3) := by decide +kernel
theorem dX10_edge_127 : decode cX10_edge 127 = .ok (.iload 4, 2) := by decide +kernel
theorem dX10_edge_129 : decode cX10_edge 129 = .ok (.invokestatic 190, 3) := by decide +kernel
theorem dX10_edge_132 : decode cX10_edge 132 = .ok (.ireturn, 1) := by decide +kernel
theorem dX10_edge_133 : decode cX10_edge 133 = .ok (.aload_n 0, 1) := by decide +kernel
theorem dX10_edge_134 : decode cX10_edge 134 = .ok (.getfield 80, 3) := by decide +kernel
theorem dX10_edge_137 : decode cX10_edge 137 = .ok (.getfield 275, 3) := by decide +kernel
theorem dX10_edge_140 : decode cX10_edge 140 = .ok (.iload 4, 2) := by decide +kernel
theorem dX10_edge_142 : decode cX10_edge 142 = .ok (.invokestatic 190, 3) := by decide +kernel
theorem dX10_edge_145 : decode cX10_edge 145 = .ok (.ireturn, 1) := by decide +kernel
theorem dX10_edge_146 : decode cX10_edge 146 = .ok (.aload_n 0, 1) := by decide +kernel
theorem dX10_edge_147 : decode cX10_edge 147 = .ok (.getfield 80, 3) := by decide +kernel
theorem dX10_edge_150 : decode cX10_edge 150 = .ok (.getfield 278, 3) := by decide +kernel
theorem dX10_edge_153 : decode cX10_edge 153 = .ok (.iload 4, 2) := by decide +kernel
theorem dX10_edge_155 : decode cX10_edge 155 = .ok (.invokestatic 190, 3) := by decide +kernel
theorem dX10_edge_158 : decode cX10_edge 158 = .ok (.ireturn, 1) := by decide +kernel
theorem dX10_edge_159 : decode cX10_edge 159 = .ok (.aload_n 0, 1) := by decide +kernel
theorem dX10_edge_160 : decode cX10_edge 160 = .ok (.getfield 62, 3) := by decide +kernel
theorem dX10_edge_163 : decode cX10_edge 163 = .ok (.iload 4, 2) := by decide +kernel
theorem dX10_edge_165 : decode cX10_edge 165 = .ok (.invokevirtual 281, 3) := by decide +kernel
theorem dX10_edge_168 : decode cX10_edge 168 = .ok (.ireturn, 1) := by decide +kernel
def rmX10_edge : Room := rmk 13 3 18 311
theorem nX10_edge : nameOk yX10_edge 3 = true := by decide +kernel
def bX10_edge_0 (J : JT) : List Value → Sem
  | [.ref x0, .int x1, .int x2, .int x3] =>
    ob 10 x0 (cV SX10_needMark [.ref x0, .int x1] <|
    ob 10 x0 (cV SX10_needMark [.ref x0, .int x2] <|
    cV SX10_needRange [.int x3, .int 0, .int 6] <|
    gR 10 3 x0 fun r1 =>
    ob 10 x0 (cV SX10_survey [.ref x0, .ref r1] <|
    gR 10 8 x0 fun r2 =>
    ob 0 r2 (cI SX0_between [.ref r2, .int x1, .int x2] fun v3 =>
    br (v3 = ((-1) : Int32))
    (rI (-1))
    (sw x3 (0) 6 fun k => match k with
    | 0 => (gR 10 8 x0 fun r4 =>
    gR 0 11 r4 fun r5 =>
    cI SX10_cell [.ref r5, .int v3] fun v6 =>
    rI v6)
    | 1 => (gR 10 8 x0 fun r7 =>
    gR 0 10 r7 fun r8 =>
    cI SX10_cell [.ref r8, .int v3] fun v9 =>
    rI v9)
    | 2 => (gR 10 8 x0 fun r10 =>
    ob 0 r10 (cI SX0_weightOf [.ref r10, .int v3] fun v11 =>
    rI v11))
    | 3 => (gR 10 9 x0 fun r12 =>
    gR 1 3 r12 fun r13 =>
    cI SX10_cell [.ref r13, .int v3] fun v14 =>
    rI v14)
    | 4 => (gR 10 10 x0 fun r15 =>
    gR 4 8 r15 fun r16 =>
    cI SX10_cell [.ref r16, .int v3] fun v17 =>
    rI v17)
    | 5 => (gR 10 10 x0 fun r18 =>
    gR 4 9 r18 fun r19 =>
    cI SX10_cell [.ref r19, .int v3] fun v20 =>
    rI v20)
    | _ => (gR 10 8 x0 fun r21 =>
    ob 0 r21 (cI SX0_spreadOf [.ref r21, .int v3] fun v22 =>
    rI v22)))))))
  | _ => no
def bX10_edge (J : JT) : JT := fun L a => match L with
  | 0 => bX10_edge_0 J a
  | _ => no
def SX10_edge : ST := mk 5 bX10_edge
def lX10_edge (L : Nat) (a : List Value) : Nat × Nat × Nat × List (Nat × Value) × List Value := match L with
  | 0 => (0, 0, 0, lv_args 0 a, [])
  | _ => (0, 0, 0, [], [])
theorem pX10_edge_0 {Γ : CT} (hC : Ctx Γ "SpiritWall" cX10_edge 5 (some .int) rmX10_edge) (hnt : NT Γ) (J : JT) (hJ : ∀ L a, Cor Γ 5 (lX10_edge L a).1 (lX10_edge L a).2.1 (lX10_edge L a).2.2.1 (lX10_edge L a).2.2.2.1 (lX10_edge L a).2.2.2.2 (J L a)) (a : List Value) : Cor Γ 5 0 0 0 (lv_args 0 a) [] (bX10_edge_0 J a) := by
  unfold bX10_edge_0
  split
  · rename_i x0 x1 x2 x3
    refine c_sub [0, 1, 2, 3] rfl (loc' := [(0, .ref x0), (1, .int x1), (2, .int x2), (3, .int x3)]) ?_
    refine q_aload_n hC 0 dX10_edge_0 rfl rfl ?_
    refine q_iload_n hC 1 dX10_edge_1 rfl rfl ?_
    refine q_cVV hC hnt (stk := []) (as := [.int x1]) sX10_needMark (ci := 10) (by decide) rfl nX10_needMark rfl w_575 w_577 w_578 w_27 w_576 (Nat.le_of_ble_eq_true rfl) dX10_edge_2 rfl ?_
    refine q_aload_n hC 0 dX10_edge_5 rfl rfl ?_
    refine q_iload_n hC 2 dX10_edge_6 rfl rfl ?_
    refine q_cVV hC hnt (stk := []) (as := [.int x2]) sX10_needMark (ci := 10) (by decide) rfl nX10_needMark rfl w_575 w_577 w_578 w_27 w_576 (Nat.le_of_ble_eq_true rfl) dX10_edge_7 rfl ?_
    refine q_iload_n hC 3 dX10_edge_10 rfl rfl ?_
    refine q_iconst hC dX10_edge_11 rfl ?_
    refine q_bipush hC (v := 6) dX10_edge_12 rfl ?_
    refine q_cSV hC hnt (stk := []) (as := [.int x3, .int 0, .int 6]) sX10_needRange nX10_needRange rfl w_643 w_645 w_27 w_644 (Nat.le_of_ble_eq_true rfl) dX10_edge_14 rfl ?_
    refine q_aload_n hC 0 dX10_edge_17 rfl rfl ?_
    refine q_aload_n hC 0 dX10_edge_18 rfl rfl ?_
    refine q_getR hC (by decide) (by decide) rfl w_133 dX10_edge_19 (fun r1 => ?_)
    refine q_cVV hC hnt (stk := []) (as := [.ref r1]) sX10_survey (ci := 10) (by decide) rfl nX10_survey rfl w_552 w_554 w_555 w_27 w_553 (Nat.le_of_ble_eq_true rfl) dX10_edge_22 rfl ?_
    refine q_aload_n hC 0 dX10_edge_25 rfl rfl ?_
    refine q_getR hC (by decide) (by decide) rfl w_150 dX10_edge_26 (fun r2 => ?_)
    refine q_iload_n hC 1 dX10_edge_29 rfl rfl ?_
    refine q_iload_n hC 2 dX10_edge_30 rfl rfl ?_
    refine q_cVI hC hnt (stk := []) (as := [.int x1, .int x2]) sX0_between (ci := 0) (by decide) rfl nX0_between rfl w_579 w_406 w_407 w_149 w_405 (Nat.le_of_ble_eq_true rfl) dX10_edge_31 rfl (fun v3 => ?_)
    refine q_istoreA hC (loc' := [(4, .int v3), (0, .ref x0), (1, .int x1), (2, .int x2), (3, .int x3)]) dX10_edge_34 (Nat.le_of_ble_eq_true rfl) rfl ?_
    refine q_iload hC 0 dX10_edge_36 rfl ?_
    refine q_iconst hC dX10_edge_38 rfl ?_
    refine q_ic_ne hC 44 dX10_edge_39 rfl ?_ ?_
    · refine q_iload_n hC 4 dX10_edge_44 rfl rfl ?_
      refine q_sw hC (0) 6 (fun k => ([84, 97, 110, 120, 133, 146] : List Nat).getD k 159) dX10_edge_45 rfl rfl (by decide +kernel) rfl ?_
      intro i hi
      match i, hi with
      | 0, _ =>
        refine c_pc (pc' := 84) rfl ?_
        refine q_aload_n hC 1 dX10_edge_84 rfl rfl ?_
        refine q_getR hC (by decide) (by decide) rfl w_150 dX10_edge_85 (fun r4 => ?_)
        refine q_getR hC (by decide) (by decide) rfl w_646 dX10_edge_88 (fun r5 => ?_)
        refine q_iload hC 0 dX10_edge_91 rfl ?_
        refine q_cSI hC hnt (stk := []) (as := [.ref r5, .int v3]) sX10_cell nX10_cell rfl w_408 w_202 w_27 w_201 (Nat.le_of_ble_eq_true rfl) dX10_edge_93 rfl (fun v6 => ?_)
        exact q_iret hC dX10_edge_96 (Nat.le_of_ble_eq_true rfl) (Nat.le_of_ble_eq_true rfl)
      | 1, _ =>
        refine c_pc (pc' := 97) rfl ?_
        refine q_aload_n hC 1 dX10_edge_97 rfl rfl ?_
        refine q_getR hC (by decide) (by decide) rfl w_150 dX10_edge_98 (fun r7 => ?_)
        refine q_getR hC (by decide) (by decide) rfl w_647 dX10_edge_101 (fun r8 => ?_)
        refine q_iload hC 0 dX10_edge_104 rfl ?_
        refine q_cSI hC hnt (stk := []) (as := [.ref r8, .int v3]) sX10_cell nX10_cell rfl w_408 w_202 w_27 w_201 (Nat.le_of_ble_eq_true rfl) dX10_edge_106 rfl (fun v9 => ?_)
        exact q_iret hC dX10_edge_109 (Nat.le_of_ble_eq_true rfl) (Nat.le_of_ble_eq_true rfl)
      | 2, _ =>
        refine c_pc (pc' := 110) rfl ?_
        refine q_aload_n hC 1 dX10_edge_110 rfl rfl ?_
        refine q_getR hC (by decide) (by decide) rfl w_150 dX10_edge_111 (fun r10 => ?_)
        refine q_iload hC 0 dX10_edge_114 rfl ?_
        refine q_cVI hC hnt (stk := []) (as := [.int v3]) sX0_weightOf (ci := 0) (by decide) rfl nX0_weightOf rfl w_648 w_650 w_651 w_149 w_649 (Nat.le_of_ble_eq_true rfl) dX10_edge_116 rfl (fun v11 => ?_)
        exact q_iret hC dX10_edge_119 (Nat.le_of_ble_eq_true rfl) (Nat.le_of_ble_eq_true rfl)
      | 3, _ =>
        refine c_pc (pc' := 120) rfl ?_
        refine q_aload_n hC 1 dX10_edge_120 rfl rfl ?_
        refine q_getR hC (by decide) (by decide) rfl w_155 dX10_edge_121 (fun r12 => ?_)
        refine q_getR hC (by decide) (by decide) rfl w_652 dX10_edge_124 (fun r13 => ?_)
        refine q_iload hC 0 dX10_edge_127 rfl ?_
        refine q_cSI hC hnt (stk := []) (as := [.ref r13, .int v3]) sX10_cell nX10_cell rfl w_408 w_202 w_27 w_201 (Nat.le_of_ble_eq_true rfl) dX10_edge_129 rfl (fun v14 => ?_)
        exact q_iret hC dX10_edge_132 (Nat.le_of_ble_eq_true rfl) (Nat.le_of_ble_eq_true rfl)
      | 4, _ =>
        refine c_pc (pc' := 133) rfl ?_
        refine q_aload_n hC 1 dX10_edge_133 rfl rfl ?_
        refine q_getR hC (by decide) (by decide) rfl w_160 dX10_edge_134 (fun r15 => ?_)
        refine q_getR hC (by decide) (by decide) rfl w_653 dX10_edge_137 (fun r16 => ?_)
        refine q_iload hC 0 dX10_edge_140 rfl ?_
        refine q_cSI hC hnt (stk := []) (as := [.ref r16, .int v3]) sX10_cell nX10_cell rfl w_408 w_202 w_27 w_201 (Nat.le_of_ble_eq_true rfl) dX10_edge_142 rfl (fun v17 => ?_)
        exact q_iret hC dX10_edge_145 (Nat.le_of_ble_eq_true rfl) (Nat.le_of_ble_eq_true rfl)
      | 5, _ =>
        refine c_pc (pc' := 146) rfl ?_
        refine q_aload_n hC 1 dX10_edge_146 rfl rfl ?_
        refine q_getR hC (by decide) (by decide) rfl w_160 dX10_edge_147 (fun r18 => ?_)
        refine q_getR hC (by decide) (by decide) rfl w_654 dX10_edge_150 (fun r19 => ?_)
        refine q_iload hC 0 dX10_edge_153 rfl ?_
        refine q_cSI hC hnt (stk := []) (as := [.ref r19, .int v3]) sX10_cell nX10_cell rfl w_408 w_202 w_27 w_201 (Nat.le_of_ble_eq_true rfl) dX10_edge_155 rfl (fun v20 => ?_)
        exact q_iret hC dX10_edge_158 (Nat.le_of_ble_eq_true rfl) (Nat.le_of_ble_eq_true rfl)
      | 6, _ =>
        refine c_pc (pc' := 159) rfl ?_
        refine q_aload_n hC 1 dX10_edge_159 rfl rfl ?_
        refine q_getR hC (by decide) (by decide) rfl w_150 dX10_edge_160 (fun r21 => ?_)
        refine q_iload hC 0 dX10_edge_163 rfl ?_
        refine q_cVI hC hnt (stk := []) (as := [.int v3]) sX0_spreadOf (ci := 0) (by decide) rfl nX0_spreadOf rfl w_655 w_657 w_658 w_149 w_656 (Nat.le_of_ble_eq_true rfl) dX10_edge_165 rfl (fun v22 => ?_)
        exact q_iret hC dX10_edge_168 (Nat.le_of_ble_eq_true rfl) (Nat.le_of_ble_eq_true rfl)
      | k + 7, h => exact absurd h (by omega)
    · refine q_iconst hC dX10_edge_42 rfl ?_
      exact q_iret hC dX10_edge_43 (Nat.le_of_ble_eq_true rfl) (Nat.le_of_ble_eq_true rfl)
  · exact c_no
theorem sX10_edge : Snd yX10_edge (.code yX10_edge cX10_edge 5 (some .int)) rmX10_edge SX10_edge := by
  refine Snd.of lX10_edge (by decide +kernel) (fun _ => rfl) ?_
  intro Γ hC hnt hnm J hJ L a
  match L with
  | 0 => exact pX10_edge_0 hC hnt J hJ a
  | L + 1 => exact c_no
/-! SpiritWall.along(II)I -/
theorem dX10_along_0 : decode cX10_along 0 = .ok (.aload_n 0, 1) := by decide +kernel
theorem dX10_along_1 : decode cX10_along 1 = .ok (.iload_n 1, 1) := by decide +kernel
theorem dX10_along_2 : decode cX10_along 2 = .ok (.invokevirtual 170, 3) := by decide +kernel
theorem dX10_along_5 : decode cX10_along 5 = .ok (.aload_n 0, 1) := by decide +kernel
theorem dX10_along_6 : decode cX10_along 6 = .ok (.iload_n 2, 1) := by decide +kernel
theorem dX10_along_7 : decode cX10_along 7 = .ok (.invokevirtual 170, 3) := by decide +kernel
theorem dX10_along_10 : decode cX10_along 10 = .ok (.aload_n 0, 1) := by decide +kernel
theorem dX10_along_11 : decode cX10_along 11 = .ok (.aload_n 0, 1) := by decide +kernel
theorem dX10_along_12 : decode cX10_along 12 = .ok (.getfield 31, 3) := by decide +kernel
theorem dX10_along_15 : decode cX10_along 15 = .ok (.invokevirtual 135, 3) := by decide +kernel
theorem dX10_along_18 : decode cX10_along 18 = .ok (.aload_n 0, 1) := by decide +kernel
theorem dX10_along_19 : decode cX10_along 19 = .ok (.getfield 71, 3) := by decide +kernel
theorem dX10_along_22 : decode cX10_along 22 = .ok (.iload_n 1, 1) := by decide +kernel
theorem dX10_along_23 : decode cX10_along 23 = .ok (.iload_n 2, 1) := by decide +kernel
theorem dX10_along_24 : decode cX10_along 24 = .ok (.invokevirtual 284, 3) := by decide +kernel
theorem dX10_along_27 : decode cX10_along 27 = .ok (.ifCond .eq 15, 3) := by decide +kernel
theorem dX10_along_30 : decode cX10_along 30 = .ok (.aload_n 0, 1) := by decide +kernel
theorem dX10_along_31 : decode cX10_along 31 = .ok (.getfield 71, 3) := by decide +kernel
theorem dX10_along_34 : decode cX10_along 34 = .ok (.iload_n 1, 1) := by decide +kernel
theorem dX10_along_35 : decode cX10_along 35 = .ok (.iload_n 2, 1) := by decide +kernel
theorem dX10_along_36 : decode cX10_along 36 = .ok (.invokevirtual 288, 3) := by decide +kernel
theorem dX10_along_39 : decode cX10_along 39 = .ok (.goto 6, 3) := by decide +kernel
theorem dX10_along_42 : decode cX10_along 42 = .ok (.ldc_w 256, 3) := by decide +kernel
theorem dX10_along_45 : decode cX10_along 45 = .ok (.ireturn, 1) := by decide +kernel
def rmX10_along : Room := rmk 13 2 12 311
theorem nX10_along : nameOk yX10_along 2 = true := by decide +kernel
def bX10_along_0 (J : JT) : List Value → Sem
  | [.ref x0, .int x1, .int x2] =>
    ob 10 x0 (cV SX10_needMark [.ref x0, .int x1] <|
    ob 10 x0 (cV SX10_needMark [.ref x0, .int x2] <|
    gR 10 3 x0 fun r1 =>
    ob 10 x0 (cV SX10_survey [.ref x0, .ref r1] <|
    gR 10 9 x0 fun r2 =>
    ob 1 r2 (cI SX1_joined [.ref r2, .int x1, .int x2] fun v3 =>
    br (v3 = 0)
    (rI (-10000000))
    (gR 10 9 x0 fun r4 =>
    ob 1 r4 (cI SX1_climbOf [.ref r4, .int x1, .int x2] fun v5 =>
    rI v5))))))
  | _ => no
def bX10_along (J : JT) : JT := fun L a => match L with
  | 0 => bX10_along_0 J a
  | _ => no
def SX10_along : ST := mk 3 bX10_along
def lX10_along (L : Nat) (a : List Value) : Nat × Nat × Nat × List (Nat × Value) × List Value := match L with
  | 0 => (0, 0, 0, lv_args 0 a, [])
  | _ => (0, 0, 0, [], [])
theorem pX10_along_0 {Γ : CT} (hC : Ctx Γ "SpiritWall" cX10_along 3 (some .int) rmX10_along) (hnt : NT Γ) (J : JT) (hJ : ∀ L a, Cor Γ 3 (lX10_along L a).1 (lX10_along L a).2.1 (lX10_along L a).2.2.1 (lX10_along L a).2.2.2.1 (lX10_along L a).2.2.2.2 (J L a)) (a : List Value) : Cor Γ 3 0 0 0 (lv_args 0 a) [] (bX10_along_0 J a) := by
  unfold bX10_along_0
  split
  · rename_i x0 x1 x2
    refine c_sub [0, 1, 2] rfl (loc' := [(0, .ref x0), (1, .int x1), (2, .int x2)]) ?_
    refine q_aload_n hC 0 dX10_along_0 rfl rfl ?_
    refine q_iload_n hC 1 dX10_along_1 rfl rfl ?_
    refine q_cVV hC hnt (stk := []) (as := [.int x1]) sX10_needMark (ci := 10) (by decide) rfl nX10_needMark rfl w_575 w_577 w_578 w_27 w_576 (Nat.le_of_ble_eq_true rfl) dX10_along_2 rfl ?_
    refine q_aload_n hC 0 dX10_along_5 rfl rfl ?_
    refine q_iload_n hC 2 dX10_along_6 rfl rfl ?_
    refine q_cVV hC hnt (stk := []) (as := [.int x2]) sX10_needMark (ci := 10) (by decide) rfl nX10_needMark rfl w_575 w_577 w_578 w_27 w_576 (Nat.le_of_ble_eq_true rfl) dX10_along_7 rfl ?_
    refine q_aload_n hC 0 dX10_along_10 rfl rfl ?_
    refine q_aload_n hC 0 dX10_along_11 rfl rfl ?_
    refine q_getR hC (by decide) (by decide) rfl w_133 dX10_along_12 (fun r1 => ?_)
    refine q_cVV hC hnt (stk := []) (as := [.ref r1]) sX10_survey (ci := 10) (by decide) rfl nX10_survey rfl w_552 w_554 w_555 w_27 w_553 (Nat.le_of_ble_eq_true rfl) dX10_along_15 rfl ?_
    refine q_aload_n hC 0 dX10_along_18 rfl rfl ?_
    refine q_getR hC (by decide) (by decide) rfl w_155 dX10_along_19 (fun r2 => ?_)
    refine q_iload_n hC 1 dX10_along_22 rfl rfl ?_
    refine q_iload_n hC 2 dX10_along_23 rfl rfl ?_
    refine q_cVI hC hnt (stk := []) (as := [.int x1, .int x2]) sX1_joined (ci := 1) (by decide) rfl nX1_joined rfl w_618 w_494 w_495 w_154 w_493 (Nat.le_of_ble_eq_true rfl) dX10_along_24 rfl (fun v3 => ?_)
    refine q_if_eq hC 42 dX10_along_27 rfl ?_ ?_
    · refine q_ldcw hC w_641 dX10_along_42 ?_
      exact q_iret hC dX10_along_45 (Nat.le_of_ble_eq_true rfl) (Nat.le_of_ble_eq_true rfl)
    · refine q_aload_n hC 0 dX10_along_30 rfl rfl ?_
      refine q_getR hC (by decide) (by decide) rfl w_155 dX10_along_31 (fun r4 => ?_)
      refine q_iload_n hC 1 dX10_along_34 rfl rfl ?_
      refine q_iload_n hC 2 dX10_along_35 rfl rfl ?_
      refine q_cVI hC hnt (stk := []) (as := [.int x1, .int x2]) sX1_climbOf (ci := 1) (by decide) rfl nX1_climbOf rfl w_659 w_473 w_474 w_154 w_472 (Nat.le_of_ble_eq_true rfl) dX10_along_36 rfl (fun v5 => ?_)
      refine q_goto hC 45 dX10_along_39 rfl ?_
      exact q_iret hC dX10_along_45 (Nat.le_of_ble_eq_true rfl) (Nat.le_of_ble_eq_true rfl)
  · exact c_no
theorem sX10_along : Snd yX10_along (.code yX10_along cX10_along 3 (some .int)) rmX10_along SX10_along := by
  refine Snd.of lX10_along (by decide +kernel) (fun _ => rfl) ?_
  intro Γ hC hnt hnm J hJ L a
  match L with
  | 0 => exact pX10_along_0 hC hnt J hJ a
  | L + 1 => exact c_no
/-! SpiritWall.needLoop(I)V -/
theorem dX10_needLoop_0 : decode cX10_needLoop 0 = .ok (.iload_n 1, 1) := by decide +kernel
theorem dX10_needLoop_1 : decode cX10_needLoop 1 = .ok (.ifCond .lt 14, 3) := by decide +kernel
theorem dX10_needLoop_4 : decode cX10_needLoop 4 = .ok (.iload_n 1, 1) := by decide +kernel
theorem dX10_needLoop_5 : decode cX10_needLoop 5 = .ok (.aload_n 0, 1) := by decide +kernel
theorem dX10_needLoop_6 : decode cX10_needLoop 6 = .ok (.getfield 80, 3) := by decide +kernel
theorem dX10_needLoop_9 : decode cX10_needLoop 9 = .ok (.getfield 150, 3) := by decide +kernel
theorem dX10_needLoop_12 : decode cX10_needLoop 12 = .ok (.if_icmp .lt 14, 3) := by decide +kernel
theorem dX10_needLoop_15 : decode cX10_needLoop 15 = .ok (.new 437, 3) := by decide +kernel
theorem dX10_needLoop_18 : decode cX10_needLoop 18 = .ok (.dup, 1) := by decide +kernel
theorem dX10_needLoop_19 : decode cX10_needLoop 19 = .ok (.ldc_w 444, 3) := by decide +kernel
theorem dX10_needLoop_22 : decode cX10_needLoop 22 = .ok (.invokespecial 441, 3) := by decide +kernel
theorem dX10_needLoop_25 : decode cX10_needLoop 25 = .ok (.athrow, 1) := by decide +kernel
theorem dX10_needLoop_26 : decode cX10_needLoop 26 = .ok (.return_, 1) := by decide +kernel
def rmX10_needLoop : Room := rmk 6 1 6 150
theorem nX10_needLoop : nameOk yX10_needLoop 1 = true := by decide +kernel
def bX10_needLoop_0 (J : JT) : List Value → Sem
  | [.ref x0, .int x1] =>
    br (x1 < 0)
    (thr 1)
    (gR 10 10 x0 fun r1 =>
    gI 4 2 r1 fun v2 =>
    br (x1 < v2)
    (rV)
    (thr 1))
  | _ => no
def bX10_needLoop (J : JT) : JT := fun L a => match L with
  | 0 => bX10_needLoop_0 J a
  | _ => no
def SX10_needLoop : ST := mk 2 bX10_needLoop
def lX10_needLoop (L : Nat) (a : List Value) : Nat × Nat × Nat × List (Nat × Value) × List Value := match L with
  | 0 => (0, 0, 0, lv_args 0 a, [])
  | _ => (0, 0, 0, [], [])
theorem pX10_needLoop_0 {Γ : CT} (hC : Ctx Γ "SpiritWall" cX10_needLoop 2 none rmX10_needLoop) (hnt : NT Γ) (J : JT) (hJ : ∀ L a, Cor Γ 2 (lX10_needLoop L a).1 (lX10_needLoop L a).2.1 (lX10_needLoop L a).2.2.1 (lX10_needLoop L a).2.2.2.1 (lX10_needLoop L a).2.2.2.2 (J L a)) (a : List Value) : Cor Γ 2 0 0 0 (lv_args 0 a) [] (bX10_needLoop_0 J a) := by
  unfold bX10_needLoop_0
  split
  · rename_i x0 x1
    refine c_sub [0, 1] rfl (loc' := [(0, .ref x0), (1, .int x1)]) ?_
    refine q_iload_n hC 1 dX10_needLoop_0 rfl rfl ?_
    refine q_if_lt hC 15 dX10_needLoop_1 rfl ?_ ?_
    · exact q_throwW hC (by decide) (by decide) (by decide +kernel) (i := 25) (tx := "there is no such loop") (by decide +kernel) hnt dX10_needLoop_15 dX10_needLoop_18 dX10_needLoop_19 dX10_needLoop_22 dX10_needLoop_25 (Nat.le_of_ble_eq_true rfl) (Nat.le_of_ble_eq_true rfl) ⟨(Nat.le_of_ble_eq_true rfl), (Nat.le_of_ble_eq_true rfl)⟩
    · refine q_iload_n hC 1 dX10_needLoop_4 rfl rfl ?_
      refine q_aload_n hC 0 dX10_needLoop_5 rfl rfl ?_
      refine q_getR hC (by decide) (by decide) rfl w_160 dX10_needLoop_6 (fun r1 => ?_)
      refine q_getI hC (by decide) (by decide) rfl w_567 dX10_needLoop_9 (fun v2 => ?_)
      refine q_ic_lt hC 26 dX10_needLoop_12 rfl ?_ ?_
      · exact q_vret hC dX10_needLoop_26 (Nat.le_of_ble_eq_true rfl) (Nat.le_of_ble_eq_true rfl)
      · exact q_throwW hC (by decide) (by decide) (by decide +kernel) (i := 25) (tx := "there is no such loop") (by decide +kernel) hnt dX10_needLoop_15 dX10_needLoop_18 dX10_needLoop_19 dX10_needLoop_22 dX10_needLoop_25 (Nat.le_of_ble_eq_true rfl) (Nat.le_of_ble_eq_true rfl) ⟨(Nat.le_of_ble_eq_true rfl), (Nat.le_of_ble_eq_true rfl)⟩
  · exact c_no
theorem sX10_needLoop : Snd yX10_needLoop (.code yX10_needLoop cX10_needLoop 2 none) rmX10_needLoop SX10_needLoop := by
  refine Snd.of lX10_needLoop (by decide +kernel) (fun _ => rfl) ?_
  intro Γ hC hnt hnm J hJ L a
  match L with
  | 0 => exact pX10_needLoop_0 hC hnt J hJ a
  | L + 1 => exact c_no
/-! SpiritWall.loop(II)I -/
theorem dX10_loop_0 : decode cX10_loop 0 = .ok (.aload_n 0, 1) := by decide +kernel
theorem dX10_loop_1 : decode cX10_loop 1 = .ok (.aload_n 0, 1) := by decide +kernel
theorem dX10_loop_2 : decode cX10_loop 2 = .ok (.getfield 31, 3) := by decide +kernel
theorem dX10_loop_5 : decode cX10_loop 5 = .ok (.invokevirtual 135, 3) := by decide +kernel
theorem dX10_loop_8 : decode cX10_loop 8 = .ok (.aload_n 0, 1) := by decide +kernel
theorem dX10_loop_9 : decode cX10_loop 9 = .ok (.iload_n 1, 1) := by decide +kernel
theorem dX10_loop_10 : decode cX10_loop 10 = .ok (.invokevirtual 291, 3) := by decide +kernel
theorem dX10_loop_13 : decode cX10_loop 13 = .ok (.iload_n 2, 1) := by decide +kernel
theorem dX10_loop_14 : decode cX10_loop 14 = .ok (.tableswitch 119 0 5 #[38, 48, 58, 70, 82, 94], 38) := by decide +kernel
theorem dX10_loop_52 : decode cX10_loop 52 = .ok (.aload_n 0, 1) := by decide +kernel
theorem dX10_loop_53 : decode cX10_loop 53 = .ok (.getfield 80, 3) := by decide +kernel
theorem dX10_loop_56 : decode cX10_loop 56 = .ok (.iload_n 1, 1) := by decide +kernel
theorem dX10_loop_57 : decode cX10_loop 57 = .ok (.iconst 0, 1) := by decide +kernel
theorem dX10_loop_58 : decode cX10_loop 58 = .ok (.invokevirtual 294, 3) := by decide +kernel
theorem dX10_loop_61 : decode cX10_loop 61 = .ok (.ireturn, 1) := by decide +kernel
theorem dX10_loop_62 : decode cX10_loop 62 = .ok (.aload_n 0, 1) := by decide +kernel
theorem dX10_loop_63 : decode cX10_loop 63 = .ok (.getfield 80, 3) := by decide +kernel
theorem dX10_loop_66 : decode cX10_loop 66 = .ok (.iload_n 1, 1) := by decide +kernel
theorem dX10_loop_67 : decode cX10_loop 67 = .ok (.iconst 1, 1) := by decide +kernel
theorem dX10_loop_68 : decode cX10_loop 68 = .ok (.invokevirtual 294, 3) := by decide +kernel
theorem dX10_loop_71 : decode cX10_loop 71 = .ok (.ireturn, 1) := by decide +kernel
theorem dX10_loop_72 : decode cX10_loop 72 = .ok (.aload_n 0, 1) := by decide +kernel
theorem dX10_loop_73 : decode cX10_loop 73 = .ok (.getfield 80, 3) := by decide +kernel
theorem dX10_loop_76 : decode cX10_loop 76 = .ok (.getfield 297, 3) := by decide +kernel
theorem dX10_loop_79 : decode cX10_loop 79 = .ok (.iload_n 1, 1) := by decide +kernel
theorem dX10_loop_80 : decode cX10_loop 80 = .ok (.invokestatic 190, 3) := by decide +kernel
theorem dX10_loop_83 : decode cX10_loop 83 = .ok (.ireturn, 1) := by decide +kernel
theorem dX10_loop_84 : decode cX10_loop 84 = .ok (.aload_n 0, 1) := by decide +kernel
theorem dX10_loop_85 : decode cX10_loop 85 = .ok (.getfield 80, 3) := by decide +kernel
theorem dX10_loop_88 : decode cX10_loop 88 = .ok (.getfield 300, 3) := by decide +kernel
theorem dX10_loop_91 : decode cX10_loop 91 = .ok (.iload_n 1, 1) := by decide +kernel
theorem dX10_loop_92 : decode cX10_loop 92 = .ok (.invokestatic 190, 3) := by decide +kernel
theorem dX10_loop_95 : decode cX10_loop 95 = .ok (.ireturn, 1) := by decide +kernel
theorem dX10_loop_96 : decode cX10_loop 96 = .ok (.aload_n 0, 1) := by decide +kernel
theorem dX10_loop_97 : decode cX10_loop 97 = .ok (.getfield 80, 3) := by decide +kernel
theorem dX10_loop_100 : decode cX10_loop 100 = .ok (.getfield 303, 3) := by decide +kernel
theorem dX10_loop_103 : decode cX10_loop 103 = .ok (.iload_n 1, 1) := by decide +kernel
theorem dX10_loop_104 : decode cX10_loop 104 = .ok (.invokestatic 190, 3) := by decide +kernel
theorem dX10_loop_107 : decode cX10_loop 107 = .ok (.ireturn, 1) := by decide +kernel
theorem dX10_loop_108 : decode cX10_loop 108 = .ok (.aload_n 0, 1) := by decide +kernel
theorem dX10_loop_109 : decode cX10_loop 109 = .ok (.getfield 80, 3) := by decide +kernel
theorem dX10_loop_112 : decode cX10_loop 112 = .ok (.iload_n 1, 1) := by decide +kernel
theorem dX10_loop_113 : decode cX10_loop 113 = .ok (.aload_n 0, 1) := by decide +kernel
theorem dX10_loop_114 : decode cX10_loop 114 = .ok (.getfield 31, 3) := by decide +kernel
theorem dX10_loop_117 : decode cX10_loop 117 = .ok (.iconst 3, 1) := by decide +kernel
theorem dX10_loop_118 : decode cX10_loop 118 = .ok (.invokevirtual 160, 3) := by decide +kernel
theorem dX10_loop_121 : decode cX10_loop 121 = .ok (.invokevirtual 306, 3) := by decide +kernel
theorem dX10_loop_124 : decode cX10_loop 124 = .ok (.ifCond .eq 7, 3) := by decide +kernel
theorem dX10_loop_127 : decode cX10_loop 127 = .ok (.iconst 1, 1) := by decide +kernel
theorem dX10_loop_128 : decode cX10_loop 128 = .ok (.goto 4, 3) := by decide +kernel
theorem dX10_loop_131 : decode cX10_loop 131 = .ok (.iconst 0, 1) := by decide +kernel
theorem dX10_loop_132 : decode cX10_loop 132 = .ok (.ireturn, 1) := by decide +kernel
theorem dX10_loop_133 : decode cX10_loop 133 = .ok (.new 207, 3) := by decide +kernel
theorem dX10_loop_136 : decode cX10_loop 136 = .ok (.dup, 1) := by decide +kernel
theorem dX10_loop_137 : decode cX10_loop 137 = .ok (.ldc_w 309, 3) := by decide +kernel
theorem dX10_loop_140 : decode cX10_loop 140 = .ok (.invokespecial 211, 3) := by decide +kernel
theorem dX10_loop_143 : decode cX10_loop 143 = .ok (.athrow, 1) := by decide +kernel
def rmX10_loop : Room := rmk 13 2 12 311
theorem nX10_loop : nameOk yX10_loop 2 = true := by decide +kernel
def bX10_loop_0 (J : JT) : List Value → Sem
  | [.ref x0, .int x1, .int x2] =>
    gR 10 3 x0 fun r1 =>
    ob 10 x0 (cV SX10_survey [.ref x0, .ref r1] <|
    ob 10 x0 (cV SX10_needLoop [.ref x0, .int x1] <|
    sw x2 (0) 6 fun k => match k with
    | 0 => (gR 10 10 x0 fun r2 =>
    ob 4 r2 (cI SX4_markAt [.ref r2, .int x1, .int 0] fun v3 =>
    rI v3))
    | 1 => (gR 10 10 x0 fun r4 =>
    ob 4 r4 (cI SX4_markAt [.ref r4, .int x1, .int 1] fun v5 =>
    rI v5))
    | 2 => (gR 10 10 x0 fun r6 =>
    gR 4 4 r6 fun r7 =>
    cI SX10_cell [.ref r7, .int x1] fun v8 =>
    rI v8)
    | 3 => (gR 10 10 x0 fun r9 =>
    gR 4 5 r9 fun r10 =>
    cI SX10_cell [.ref r10, .int x1] fun v11 =>
    rI v11)
    | 4 => (gR 10 10 x0 fun r12 =>
    gR 4 6 r12 fun r13 =>
    cI SX10_cell [.ref r13, .int x1] fun v14 =>
    rI v14)
    | 5 => (gR 10 10 x0 fun r15 =>
    gR 10 3 x0 fun r16 =>
    ob 6 r16 (cI SX6_settingOf [.ref r16, .int 3] fun v17 =>
    ob 4 r15 (cI SX4_closes [.ref r15, .int x1, .int v17] fun v18 =>
    br (v18 = 0)
    (rI 0)
    (rI 1))))
    | _ => (thr 2)))
  | _ => no
def bX10_loop (J : JT) : JT := fun L a => match L with
  | 0 => bX10_loop_0 J a
  | _ => no
def SX10_loop : ST := mk 3 bX10_loop
def lX10_loop (L : Nat) (a : List Value) : Nat × Nat × Nat × List (Nat × Value) × List Value := match L with
  | 0 => (0, 0, 0, lv_args 0 a, [])
  | _ => (0, 0, 0, [], [])
theorem pX10_loop_0 {Γ : CT} (hC : Ctx Γ "SpiritWall" cX10_loop 3 (some .int) rmX10_loop) (hnt : NT Γ) (J : JT) (hJ : ∀ L a, Cor Γ 3 (lX10_loop L a).1 (lX10_loop L a).2.1 (lX10_loop L a).2.2.1 (lX10_loop L a).2.2.2.1 (lX10_loop L a).2.2.2.2 (J L a)) (a : List Value) : Cor Γ 3 0 0 0 (lv_args 0 a) [] (bX10_loop_0 J a) := by
  unfold bX10_loop_0
  split
  · rename_i x0 x1 x2
    refine c_sub [0, 1, 2] rfl (loc' := [(0, .ref x0), (1, .int x1), (2, .int x2)]) ?_
    refine q_aload_n hC 0 dX10_loop_0 rfl rfl ?_
    refine q_aload_n hC 0 dX10_loop_1 rfl rfl ?_
    refine q_getR hC (by decide) (by decide) rfl w_133 dX10_loop_2 (fun r1 => ?_)
    refine q_cVV hC hnt (stk := []) (as := [.ref r1]) sX10_survey (ci := 10) (by decide) rfl nX10_survey rfl w_552 w_554 w_555 w_27 w_553 (Nat.le_of_ble_eq_true rfl) dX10_loop_5 rfl ?_
    refine q_aload_n hC 0 dX10_loop_8 rfl rfl ?_
    refine q_iload_n hC 1 dX10_loop_9 rfl rfl ?_
    refine q_cVV hC hnt (stk := []) (as := [.int x1]) sX10_needLoop (ci := 10) (by decide) rfl nX10_needLoop rfl w_660 w_662 w_663 w_27 w_661 (Nat.le_of_ble_eq_true rfl) dX10_loop_10 rfl ?_
    refine q_iload_n hC 2 dX10_loop_13 rfl rfl ?_
    refine q_sw hC (0) 6 (fun k => ([52, 62, 72, 84, 96, 108] : List Nat).getD k 133) dX10_loop_14 rfl rfl (by decide +kernel) rfl ?_
    intro i hi
    match i, hi with
    | 0, _ =>
      refine c_pc (pc' := 52) rfl ?_
      refine q_aload_n hC 0 dX10_loop_52 rfl rfl ?_
      refine q_getR hC (by decide) (by decide) rfl w_160 dX10_loop_53 (fun r2 => ?_)
      refine q_iload_n hC 1 dX10_loop_56 rfl rfl ?_
      refine q_iconst hC dX10_loop_57 rfl ?_
      refine q_cVI hC hnt (stk := []) (as := [.int x1, .int 0]) sX4_markAt (ci := 4) (by decide) rfl nX4_markAt rfl w_664 w_517 w_518 w_159 w_516 (Nat.le_of_ble_eq_true rfl) dX10_loop_58 rfl (fun v3 => ?_)
      exact q_iret hC dX10_loop_61 (Nat.le_of_ble_eq_true rfl) (Nat.le_of_ble_eq_true rfl)
    | 1, _ =>
      refine c_pc (pc' := 62) rfl ?_
      refine q_aload_n hC 0 dX10_loop_62 rfl rfl ?_
      refine q_getR hC (by decide) (by decide) rfl w_160 dX10_loop_63 (fun r4 => ?_)
      refine q_iload_n hC 1 dX10_loop_66 rfl rfl ?_
      refine q_iconst hC dX10_loop_67 rfl ?_
      refine q_cVI hC hnt (stk := []) (as := [.int x1, .int 1]) sX4_markAt (ci := 4) (by decide) rfl nX4_markAt rfl w_664 w_517 w_518 w_159 w_516 (Nat.le_of_ble_eq_true rfl) dX10_loop_68 rfl (fun v5 => ?_)
      exact q_iret hC dX10_loop_71 (Nat.le_of_ble_eq_true rfl) (Nat.le_of_ble_eq_true rfl)
    | 2, _ =>
      refine c_pc (pc' := 72) rfl ?_
      refine q_aload_n hC 0 dX10_loop_72 rfl rfl ?_
      refine q_getR hC (by decide) (by decide) rfl w_160 dX10_loop_73 (fun r6 => ?_)
      refine q_getR hC (by decide) (by decide) rfl w_665 dX10_loop_76 (fun r7 => ?_)
      refine q_iload_n hC 1 dX10_loop_79 rfl rfl ?_
      refine q_cSI hC hnt (stk := []) (as := [.ref r7, .int x1]) sX10_cell nX10_cell rfl w_408 w_202 w_27 w_201 (Nat.le_of_ble_eq_true rfl) dX10_loop_80 rfl (fun v8 => ?_)
      exact q_iret hC dX10_loop_83 (Nat.le_of_ble_eq_true rfl) (Nat.le_of_ble_eq_true rfl)
    | 3, _ =>
      refine c_pc (pc' := 84) rfl ?_
      refine q_aload_n hC 0 dX10_loop_84 rfl rfl ?_
      refine q_getR hC (by decide) (by decide) rfl w_160 dX10_loop_85 (fun r9 => ?_)
      refine q_getR hC (by decide) (by decide) rfl w_666 dX10_loop_88 (fun r10 => ?_)
      refine q_iload_n hC 1 dX10_loop_91 rfl rfl ?_
      refine q_cSI hC hnt (stk := []) (as := [.ref r10, .int x1]) sX10_cell nX10_cell rfl w_408 w_202 w_27 w_201 (Nat.le_of_ble_eq_true rfl) dX10_loop_92 rfl (fun v11 => ?_)
      exact q_iret hC dX10_loop_95 (Nat.le_of_ble_eq_true rfl) (Nat.le_of_ble_eq_true rfl)
    | 4, _ =>
      refine c_pc (pc' := 96) rfl ?_
      refine q_aload_n hC 0 dX10_loop_96 rfl rfl ?_
      refine q_getR hC (by decide) (by decide) rfl w_160 dX10_loop_97 (fun r12 => ?_)
      refine q_getR hC (by decide) (by decide) rfl w_667 dX10_loop_100 (fun r13 => ?_)
      refine q_iload_n hC 1 dX10_loop_103 rfl rfl ?_
      refine q_cSI hC hnt (stk := []) (as := [.ref r13, .int x1]) sX10_cell nX10_cell rfl w_408 w_202 w_27 w_201 (Nat.le_of_ble_eq_true rfl) dX10_loop_104 rfl (fun v14 => ?_)
      exact q_iret hC dX10_loop_107 (Nat.le_of_ble_eq_true rfl) (Nat.le_of_ble_eq_true rfl)
    | 5, _ =>
      refine c_pc (pc' := 108) rfl ?_
      refine q_aload_n hC 0 dX10_loop_108 rfl rfl ?_
      refine q_getR hC (by decide) (by decide) rfl w_160 dX10_loop_109 (fun r15 => ?_)
      refine q_iload_n hC 1 dX10_loop_112 rfl rfl ?_
      refine q_aload_n hC 0 dX10_loop_113 rfl rfl ?_
      refine q_getR hC (by decide) (by decide) rfl w_133 dX10_loop_114 (fun r16 => ?_)
      refine q_iconst hC dX10_loop_117 rfl ?_
      refine q_cVI hC hnt (stk := [.int x1, .ref r15]) (as := [.int 3]) sX6_settingOf (ci := 6) (by decide) rfl nX6_settingOf rfl w_544 w_355 w_356 w_35 w_354 (Nat.le_of_ble_eq_true rfl) dX10_loop_118 rfl (fun v17 => ?_)
      refine q_cVI hC hnt (stk := []) (as := [.int x1, .int v17]) sX4_closes (ci := 4) (by decide) rfl nX4_closes rfl w_668 w_530 w_531 w_159 w_529 (Nat.le_of_ble_eq_true rfl) dX10_loop_121 rfl (fun v18 => ?_)
      refine q_if_eq hC 131 dX10_loop_124 rfl ?_ ?_
      · refine q_iconst hC dX10_loop_131 rfl ?_
        exact q_iret hC dX10_loop_132 (Nat.le_of_ble_eq_true rfl) (Nat.le_of_ble_eq_true rfl)
      · refine q_iconst hC dX10_loop_127 rfl ?_
        refine q_goto hC 132 dX10_loop_128 rfl ?_
        exact q_iret hC dX10_loop_132 (Nat.le_of_ble_eq_true rfl) (Nat.le_of_ble_eq_true rfl)
    | 6, _ =>
      refine c_pc (pc' := 133) rfl ?_
      exact q_throwW hC (by decide) (by decide) (by decide +kernel) (i := 26) (tx := "no such number of a loop") (by decide +kernel) hnt dX10_loop_133 dX10_loop_136 dX10_loop_137 dX10_loop_140 dX10_loop_143 (Nat.le_of_ble_eq_true rfl) (Nat.le_of_ble_eq_true rfl) ⟨(Nat.le_of_ble_eq_true rfl), (Nat.le_of_ble_eq_true rfl)⟩
    | k + 7, h => exact absurd h (by omega)
  · exact c_no
theorem sX10_loop : Snd yX10_loop (.code yX10_loop cX10_loop 3 (some .int)) rmX10_loop SX10_loop := by
  refine Snd.of lX10_loop (by decide +kernel) (fun _ => rfl) ?_
  intro Γ hC hnt hnm J hJ L a
  match L with
  | 0 => exact pX10_loop_0 hC hnt J hJ a
  | L + 1 => exact c_no
/-! SpiritWall.loopMark(II)I -/
theorem dX10_loopMark_0 : decode cX10_loopMark 0 = .ok (.aload_n 0, 1) := by decide +kernel
theorem dX10_loopMark_1 : decode cX10_loopMark 1 = .ok (.aload_n 0, 1) := by decide +kernel
theorem dX10_loopMark_2 : decode cX10_loopMark 2 = .ok (.getfield 31, 3) := by decide +kernel
theorem dX10_loopMark_5 : decode cX10_loopMark 5 = .ok (.invokevirtual 135, 3) := by decide +kernel
theorem dX10_loopMark_8 : decode cX10_loopMark 8 = .ok (.aload_n 0, 1) := by decide +kernel
theorem dX10_loopMark_9 : decode cX10_loopMark 9 = .ok (.iload_n 1, 1) := by decide +kernel
theorem dX10_loopMark_10 : decode cX10_loopMark 10 = .ok (.invokevirtual 291, 3) := by decide +kernel
theorem dX10_loopMark_13 : decode cX10_loopMark 13 = .ok (.aload_n 0, 1) := by decide +kernel
theorem dX10_loopMark_14 : decode cX10_loopMark 14 = .ok (.getfield 80, 3) := by decide +kernel
theorem dX10_loopMark_17 : decode cX10_loopMark 17 = .ok (.iload_n 1, 1) := by decide +kernel
theorem dX10_loopMark_18 : decode cX10_loopMark 18 = .ok (.iload_n 2, 1) := by decide +kernel
theorem dX10_loopMark_19 : decode cX10_loopMark 19 = .ok (.invokevirtual 294, 3) := by decide +kernel
theorem dX10_loopMark_22 : decode cX10_loopMark 22 = .ok (.ireturn, 1) := by decide +kernel
def rmX10_loopMark : Room := rmk 13 1 6 311
theorem nX10_loopMark : nameOk yX10_loopMark 2 = true := by decide +kernel
def bX10_loopMark_0 (J : JT) : List Value → Sem
  | [.ref x0, .int x1, .int x2] =>
    gR 10 3 x0 fun r1 =>
    ob 10 x0 (cV SX10_survey [.ref x0, .ref r1] <|
    ob 10 x0 (cV SX10_needLoop [.ref x0, .int x1] <|
    gR 10 10 x0 fun r2 =>
    ob 4 r2 (cI SX4_markAt [.ref r2, .int x1, .int x2] fun v3 =>
    rI v3)))
  | _ => no
def bX10_loopMark (J : JT) : JT := fun L a => match L with
  | 0 => bX10_loopMark_0 J a
  | _ => no
def SX10_loopMark : ST := mk 3 bX10_loopMark
def lX10_loopMark (L : Nat) (a : List Value) : Nat × Nat × Nat × List (Nat × Value) × List Value := match L with
  | 0 => (0, 0, 0, lv_args 0 a, [])
  | _ => (0, 0, 0, [], [])
theorem pX10_loopMark_0 {Γ : CT} (hC : Ctx Γ "SpiritWall" cX10_loopMark 3 (some .int) rmX10_loopMark) (hnt : NT Γ) (J : JT) (hJ : ∀ L a, Cor Γ 3 (lX10_loopMark L a).1 (lX10_loopMark L a).2.1 (lX10_loopMark L a).2.2.1 (lX10_loopMark L a).2.2.2.1 (lX10_loopMark L a).2.2.2.2 (J L a)) (a : List Value) : Cor Γ 3 0 0 0 (lv_args 0 a) [] (bX10_loopMark_0 J a) := by
  unfold bX10_loopMark_0
  split
  · rename_i x0 x1 x2
    refine c_sub [0, 1, 2] rfl (loc' := [(0, .ref x0), (1, .int x1), (2, .int x2)]) ?_
    refine q_aload_n hC 0 dX10_loopMark_0 rfl rfl ?_
    refine q_aload_n hC 0 dX10_loopMark_1 rfl rfl ?_
    refine q_getR hC (by decide) (by decide) rfl w_133 dX10_loopMark_2 (fun r1 => ?_)
    refine q_cVV hC hnt (stk := []) (as := [.ref r1]) sX10_survey (ci := 10) (by decide) rfl nX10_survey rfl w_552 w_554 w_555 w_27 w_553 (Nat.le_of_ble_eq_true rfl) dX10_loopMark_5 rfl ?_
    refine q_aload_n hC 0 dX10_loopMark_8 rfl rfl ?_
    refine q_iload_n hC 1 dX10_loopMark_9 rfl rfl ?_
    refine q_cVV hC hnt (stk := []) (as := [.int x1]) sX10_needLoop (ci := 10) (by decide) rfl nX10_needLoop rfl w_660 w_662 w_663 w_27 w_661 (Nat.le_of_ble_eq_true rfl) dX10_loopMark_10 rfl ?_
    refine q_aload_n hC 0 dX10_loopMark_13 rfl rfl ?_
    refine q_getR hC (by decide) (by decide) rfl w_160 dX10_loopMark_14 (fun r2 => ?_)
    refine q_iload_n hC 1 dX10_loopMark_17 rfl rfl ?_
    refine q_iload_n hC 2 dX10_loopMark_18 rfl rfl ?_
    refine q_cVI hC hnt (stk := []) (as := [.int x1, .int x2]) sX4_markAt (ci := 4) (by decide) rfl nX4_markAt rfl w_664 w_517 w_518 w_159 w_516 (Nat.le_of_ble_eq_true rfl) dX10_loopMark_19 rfl (fun v3 => ?_)
    exact q_iret hC dX10_loopMark_22 (Nat.le_of_ble_eq_true rfl) (Nat.le_of_ble_eq_true rfl)
  · exact c_no
theorem sX10_loopMark : Snd yX10_loopMark (.code yX10_loopMark cX10_loopMark 3 (some .int)) rmX10_loopMark SX10_loopMark := by
  refine Snd.of lX10_loopMark (by decide +kernel) (fun _ => rfl) ?_
  intro Γ hC hnt hnm J hJ L a
  match L with
  | 0 => exact pX10_loopMark_0 hC hnt J hJ a
  | L + 1 => exact c_no
/-! SpiritWall$Loops.isWorse(II)Z -/
theorem dX4_isWorse_0 : decode cX4_isWorse 0 = .ok (.aload_n 0, 1) := by decide +kernel
theorem dX4_isWorse_1 : decode cX4_isWorse 1 = .ok (.iload_n 1, 1) := by decide +kernel
theorem dX4_isWorse_2 : decode cX4_isWorse 2 = .ok (.invokevirtual 116, 3) := by decide +kernel
theorem dX4_isWorse_5 : decode cX4_isWorse 5 = .ok (.aload_n 0, 1) := by decide +kernel
theorem dX4_isWorse_6 : decode cX4_isWorse 6 = .ok (.getfield 22, 3) := by decide +kernel
theorem dX4_isWorse_9 : decode cX4_isWorse 9 = .ok (.iload_n 2, 1) := by decide +kernel
theorem dX4_isWorse_10 : decode cX4_isWorse 10 = .ok (.invokestatic 57, 3) := by decide +kernel
theorem dX4_isWorse_13 : decode cX4_isWorse 13 = .ok (.i2l, 1) := by decide +kernel
theorem dX4_isWorse_14 : decode cX4_isWorse 14 = .ok (.lmul, 1) := by decide +kernel
theorem dX4_isWorse_15 : decode cX4_isWorse 15 = .ok (.aload_n 0, 1) := by decide +kernel
theorem dX4_isWorse_16 : decode cX4_isWorse 16 = .ok (.iload_n 2, 1) := by decide +kernel
theorem dX4_isWorse_17 : decode cX4_isWorse 17 = .ok (.invokevirtual 116, 3) := by decide +kernel
theorem dX4_isWorse_20 : decode cX4_isWorse 20 = .ok (.aload_n 0, 1) := by decide +kernel
theorem dX4_isWorse_21 : decode cX4_isWorse 21 = .ok (.getfield 22, 3) := by decide +kernel
theorem dX4_isWorse_24 : decode cX4_isWorse 24 = .ok (.iload_n 1, 1) := by decide +kernel
theorem dX4_isWorse_25 : decode cX4_isWorse 25 = .ok (.invokestatic 57, 3) := by decide +kernel
theorem dX4_isWorse_28 : decode cX4_isWorse 28 = .ok (.i2l, 1) := by decide +kernel
theorem dX4_isWorse_29 : decode cX4_isWorse 29 = .ok (.lmul, 1) := by decide +kernel
theorem dX4_isWorse_30 : decode cX4_isWorse 30 = .ok (.lcmp, 1) := by decide +kernel
theorem dX4_isWorse_31 : decode cX4_isWorse 31 = .ok (.ifCond .le 7, 3) := by decide +kernel
theorem dX4_isWorse_34 : decode cX4_isWorse 34 = .ok (.iconst 1, 1) := by decide +kernel
theorem dX4_isWorse_35 : decode cX4_isWorse 35 = .ok (.goto 4, 3) := by decide +kernel
theorem dX4_isWorse_38 : decode cX4_isWorse 38 = .ok (.iconst 0, 1) := by decide +kernel
theorem dX4_isWorse_39 : decode cX4_isWorse 39 = .ok (.ireturn, 1) := by decide +kernel
def rmX4_isWorse : Room := rmk 8 0 0 194
theorem nX4_isWorse : nameOk yX4_isWorse 2 = true := by decide +kernel
def bX4_isWorse_0 (J : JT) : List Value → Sem
  | [.ref x0, .int x1, .int x2] =>
    ob 4 x0 (cJ SX4_square [.ref x0, .int x1] fun v1 =>
    gR 4 5 x0 fun r2 =>
    cI SX10_cell [.ref r2, .int x2] fun v3 =>
    ob 4 x0 (cJ SX4_square [.ref x0, .int x2] fun v4 =>
    gR 4 5 x0 fun r5 =>
    cI SX10_cell [.ref r5, .int x1] fun v6 =>
    br ((lg_cmp (v1 * (v3.toInt64)) (v4 * (v6.toInt64))) ≤ 0)
    (rZ 0)
    (rZ 1)))
  | _ => no
def bX4_isWorse (J : JT) : JT := fun L a => match L with
  | 0 => bX4_isWorse_0 J a
  | _ => no
def SX4_isWorse : ST := mk 3 bX4_isWorse
def lX4_isWorse (L : Nat) (a : List Value) : Nat × Nat × Nat × List (Nat × Value) × List Value := match L with
  | 0 => (0, 0, 0, lv_args 0 a, [])
  | _ => (0, 0, 0, [], [])
theorem pX4_isWorse_0 {Γ : CT} (hC : Ctx Γ "SpiritWall$Loops" cX4_isWorse 3 (some .boolean) rmX4_isWorse) (hnt : NT Γ) (J : JT) (hJ : ∀ L a, Cor Γ 3 (lX4_isWorse L a).1 (lX4_isWorse L a).2.1 (lX4_isWorse L a).2.2.1 (lX4_isWorse L a).2.2.2.1 (lX4_isWorse L a).2.2.2.2 (J L a)) (a : List Value) : Cor Γ 3 0 0 0 (lv_args 0 a) [] (bX4_isWorse_0 J a) := by
  unfold bX4_isWorse_0
  split
  · rename_i x0 x1 x2
    refine c_sub [0, 1, 2] rfl (loc' := [(0, .ref x0), (1, .int x1), (2, .int x2)]) ?_
    refine q_aload_n hC 0 dX4_isWorse_0 rfl rfl ?_
    refine q_iload_n hC 1 dX4_isWorse_1 rfl rfl ?_
    refine q_cVJ hC hnt (stk := []) (as := [.int x1]) sX4_square (ci := 4) (by decide) rfl nX4_square rfl w_511 w_513 w_514 w_159 w_512 (Nat.le_of_ble_eq_true rfl) dX4_isWorse_2 rfl (fun v1 => ?_)
    refine q_aload_n hC 0 dX4_isWorse_5 rfl rfl ?_
    refine q_getR hC (by decide) (by decide) rfl w_113 dX4_isWorse_6 (fun r2 => ?_)
    refine q_iload_n hC 2 dX4_isWorse_9 rfl rfl ?_
    refine q_cNI hC hnt (stk := [.long v1]) (as := [.ref r2, .int x2]) sX10_cell nX10_cell rfl w_501 w_202 w_27 w_201 (Nat.le_of_ble_eq_true rfl) dX4_isWorse_10 rfl (fun v3 => ?_)
    refine q_i2l hC dX4_isWorse_13 ?_
    refine q_lmul hC dX4_isWorse_14 ?_
    refine q_aload_n hC 0 dX4_isWorse_15 rfl rfl ?_
    refine q_iload_n hC 2 dX4_isWorse_16 rfl rfl ?_
    refine q_cVJ hC hnt (stk := [.long (v1 * (v3.toInt64))]) (as := [.int x2]) sX4_square (ci := 4) (by decide) rfl nX4_square rfl w_511 w_513 w_514 w_159 w_512 (Nat.le_of_ble_eq_true rfl) dX4_isWorse_17 rfl (fun v4 => ?_)
    refine q_aload_n hC 0 dX4_isWorse_20 rfl rfl ?_
    refine q_getR hC (by decide) (by decide) rfl w_113 dX4_isWorse_21 (fun r5 => ?_)
    refine q_iload_n hC 1 dX4_isWorse_24 rfl rfl ?_
    refine q_cNI hC hnt (stk := [.long v4, .long (v1 * (v3.toInt64))]) (as := [.ref r5, .int x1]) sX10_cell nX10_cell rfl w_501 w_202 w_27 w_201 (Nat.le_of_ble_eq_true rfl) dX4_isWorse_25 rfl (fun v6 => ?_)
    refine q_i2l hC dX4_isWorse_28 ?_
    refine q_lmul hC dX4_isWorse_29 ?_
    refine q_lcmp hC dX4_isWorse_30 ?_
    refine q_if_le hC 38 dX4_isWorse_31 rfl ?_ ?_
    · refine q_iconst hC dX4_isWorse_38 rfl ?_
      exact q_zret hC dX4_isWorse_39 (Nat.le_of_ble_eq_true rfl) (Nat.le_of_ble_eq_true rfl)
    · refine q_iconst hC dX4_isWorse_34 rfl ?_
      refine q_goto hC 39 dX4_isWorse_35 rfl ?_
      exact q_zret hC dX4_isWorse_39 (Nat.le_of_ble_eq_true rfl) (Nat.le_of_ble_eq_true rfl)
  · exact c_no
theorem sX4_isWorse : Snd yX4_isWorse (.code yX4_isWorse cX4_isWorse 3 (some .boolean)) rmX4_isWorse SX4_isWorse := by
  refine Snd.of lX4_isWorse (by decide +kernel) (fun _ => rfl) ?_
  intro Γ hC hnt hnm J hJ L a
  match L with
  | 0 => exact pX4_isWorse_0 hC hnt J hJ a
  | L + 1 => exact c_no
/-! SpiritWall$Loops.worst()I -/
theorem dX4_worst_0 : decode cX4_worst 0 = .ok (.iconst (-1), 1) := by decide +kernel
theorem dX4_worst_1 : decode cX4_worst 1 = .ok (.istore_n 1, 1) := by decide +kernel
theorem dX4_worst_2 : decode cX4_worst 2 = .ok (.iconst 0, 1) := by decide +kernel
theorem dX4_worst_3 : decode cX4_worst 3 = .ok (.istore_n 2, 1) := by decide +kernel
theorem dX4_worst_4 : decode cX4_worst 4 = .ok (.iload_n 2, 1) := by decide +kernel
theorem dX4_worst_5 : decode cX4_worst 5 = .ok (.aload_n 0, 1) := by decide +kernel
theorem dX4_worst_6 : decode cX4_worst 6 = .ok (.getfield 9, 3) := by decide +kernel
theorem dX4_worst_9 : decode cX4_worst 9 = .ok (.if_icmp .ge 25, 3) := by decide +kernel
theorem dX4_worst_12 : decode cX4_worst 12 = .ok (.iload_n 1, 1) := by decide +kernel
theorem dX4_worst_13 : decode cX4_worst 13 = .ok (.iconst (-1), 1) := by decide +kernel
theorem dX4_worst_14 : decode cX4_worst 14 = .ok (.if_icmp .eq 12, 3) := by decide +kernel
theorem dX4_worst_17 : decode cX4_worst 17 = .ok (.aload_n 0, 1) := by decide +kernel
theorem dX4_worst_18 : decode cX4_worst 18 = .ok (.iload_n 2, 1) := by decide +kernel
theorem dX4_worst_19 : decode cX4_worst 19 = .ok (.iload_n 1, 1) := by decide +kernel
theorem dX4_worst_20 : decode cX4_worst 20 = .ok (.invokevirtual 120, 3) := by decide +kernel
theorem dX4_worst_23 : decode cX4_worst 23 = .ok (.ifCond .eq 5, 3) := by decide +kernel
theorem dX4_worst_26 : decode cX4_worst 26 = .ok (.iload_n 2, 1) := by decide +kernel
theorem dX4_worst_27 : decode cX4_worst 27 = .ok (.istore_n 1, 1) := by decide +kernel
theorem dX4_worst_28 : decode cX4_worst 28 = .ok (.iinc 2 1, 3) := by decide +kernel
theorem dX4_worst_31 : decode cX4_worst 31 = .ok (.goto (-27), 3) := by decide +kernel
theorem dX4_worst_34 : decode cX4_worst 34 = .ok (.iload_n 1, 1) := by decide +kernel
theorem dX4_worst_35 : decode cX4_worst 35 = .ok (.ireturn, 1) := by decide +kernel
def rmX4_worst : Room := rmk 9 0 0 216
theorem nX4_worst : nameOk yX4_worst 0 = true := by decide +kernel
def bX4_worst_0 (J : JT) : List Value → Sem
  | [.ref x0] =>
    J 1 [.ref x0, .int (-1), .int 0]
  | _ => no
def bX4_worst_1 (J : JT) : List Value → Sem
  | [.ref x0, .int x1, .int x2] =>
    gI 4 2 x0 fun v1 =>
    br (v1 ≤ x2)
    (rI x1)
    (br (x1 = ((-1) : Int32))
    (J 1 [.ref x0, .int x2, .int (x2 + 1)])
    (ob 4 x0 (cI SX4_isWorse [.ref x0, .int x2, .int x1] fun v2 =>
    br (v2 = 0)
    (J 1 [.ref x0, .int x1, .int (x2 + 1)])
    (J 1 [.ref x0, .int x2, .int (x2 + 1)]))))
  | _ => no
def bX4_worst (J : JT) : JT := fun L a => match L with
  | 0 => bX4_worst_0 J a
  | 1 => bX4_worst_1 J a
  | _ => no
def SX4_worst : ST := mk 3 bX4_worst
def lX4_worst (L : Nat) (a : List Value) : Nat × Nat × Nat × List (Nat × Value) × List Value := match L with
  | 0 => (0, 0, 0, lv_args 0 a, [])
  | 1 => (0, 0, 4, List.zip [0, 1, 2] a, [])
  | _ => (0, 0, 0, [], [])
theorem pX4_worst_0 {Γ : CT} (hC : Ctx Γ "SpiritWall$Loops" cX4_worst 3 (some .int) rmX4_worst) (hnt : NT Γ) (J : JT) (hJ : ∀ L a, Cor Γ 3 (lX4_worst L a).1 (lX4_worst L a).2.1 (lX4_worst L a).2.2.1 (lX4_worst L a).2.2.2.1 (lX4_worst L a).2.2.2.2 (J L a)) (a : List Value) : Cor Γ 3 0 0 0 (lv_args 0 a) [] (bX4_worst_0 J a) := by
  unfold bX4_worst_0
  split
  · rename_i x0
    refine c_sub [0] rfl (loc' := [(0, .ref x0)]) ?_
    refine q_iconst hC dX4_worst_0 rfl ?_
    refine q_istore_nA hC (loc' := [(1, .int (-1)), (0, .ref x0)]) dX4_worst_1 rfl (Nat.le_of_ble_eq_true rfl) rfl ?_
    refine q_iconst hC dX4_worst_2 rfl ?_
    refine q_istore_nA hC (loc' := [(2, .int 0), (1, .int (-1)), (0, .ref x0)]) dX4_worst_3 rfl (Nat.le_of_ble_eq_true rfl) rfl ?_
    exact c_sub [2, 1, 0] rfl (hJ 1 [.ref x0, .int (-1), .int 0])
  · exact c_no
theorem pX4_worst_1 {Γ : CT} (hC : Ctx Γ "SpiritWall$Loops" cX4_worst 3 (some .int) rmX4_worst) (hnt : NT Γ) (J : JT) (hJ : ∀ L a, Cor Γ 3 (lX4_worst L a).1 (lX4_worst L a).2.1 (lX4_worst L a).2.2.1 (lX4_worst L a).2.2.2.1 (lX4_worst L a).2.2.2.2 (J L a)) (a : List Value) : Cor Γ 3 0 0 4 (List.zip [0, 1, 2] a) [] (bX4_worst_1 J a) := by
  unfold bX4_worst_1
  split
  · rename_i x0 x1 x2
    refine c_sub [0, 1, 2] rfl (loc' := [(0, .ref x0), (1, .int x1), (2, .int x2)]) ?_
    refine q_iload_n hC 2 dX4_worst_4 rfl rfl ?_
    refine q_aload_n hC 0 dX4_worst_5 rfl rfl ?_
    refine q_getI hC (by decide) (by decide) rfl w_110 dX4_worst_6 (fun v1 => ?_)
    refine q_ic_ge hC 34 dX4_worst_9 rfl ?_ ?_
    · refine q_iload_n hC 1 dX4_worst_34 rfl rfl ?_
      exact q_iret hC dX4_worst_35 (Nat.le_of_ble_eq_true rfl) (Nat.le_of_ble_eq_true rfl)
    · refine q_iload_n hC 1 dX4_worst_12 rfl rfl ?_
      refine q_iconst hC dX4_worst_13 rfl ?_
      refine q_ic_eq hC 26 dX4_worst_14 rfl ?_ ?_
      · refine q_iload_n hC 2 dX4_worst_26 rfl rfl ?_
        refine q_istore_nA hC (loc' := [(1, .int x2), (0, .ref x0), (2, .int x2)]) dX4_worst_27 rfl (Nat.le_of_ble_eq_true rfl) rfl ?_
        refine q_iincA hC (loc' := [(2, .int (x2 + 1)), (1, .int x2), (0, .ref x0)]) 2 1 dX4_worst_28 rfl rfl (Nat.le_of_ble_eq_true rfl) rfl ?_
        refine q_goto hC 4 dX4_worst_31 rfl ?_
        exact c_sub [2, 1, 0] rfl (hJ 1 [.ref x0, .int x2, .int (x2 + 1)])
      · refine q_aload_n hC 0 dX4_worst_17 rfl rfl ?_
        refine q_iload_n hC 2 dX4_worst_18 rfl rfl ?_
        refine q_iload_n hC 1 dX4_worst_19 rfl rfl ?_
        refine q_cVI hC hnt (stk := []) (as := [.int x2, .int x1]) sX4_isWorse (ci := 4) (by decide) rfl nX4_isWorse rfl w_669 w_671 w_672 w_159 w_670 (Nat.le_of_ble_eq_true rfl) dX4_worst_20 rfl (fun v2 => ?_)
        refine q_if_eq hC 28 dX4_worst_23 rfl ?_ ?_
        · refine q_iincA hC (loc' := [(2, .int (x2 + 1)), (0, .ref x0), (1, .int x1)]) 2 1 dX4_worst_28 rfl rfl (Nat.le_of_ble_eq_true rfl) rfl ?_
          refine q_goto hC 4 dX4_worst_31 rfl ?_
          exact c_sub [1, 2, 0] rfl (hJ 1 [.ref x0, .int x1, .int (x2 + 1)])
        · refine q_iload_n hC 2 dX4_worst_26 rfl rfl ?_
          refine q_istore_nA hC (loc' := [(1, .int x2), (0, .ref x0), (2, .int x2)]) dX4_worst_27 rfl (Nat.le_of_ble_eq_true rfl) rfl ?_
          refine q_iincA hC (loc' := [(2, .int (x2 + 1)), (1, .int x2), (0, .ref x0)]) 2 1 dX4_worst_28 rfl rfl (Nat.le_of_ble_eq_true rfl) rfl ?_
          refine q_goto hC 4 dX4_worst_31 rfl ?_
          exact c_sub [2, 1, 0] rfl (hJ 1 [.ref x0, .int x2, .int (x2 + 1)])
  · exact c_no
theorem sX4_worst : Snd yX4_worst (.code yX4_worst cX4_worst 3 (some .int)) rmX4_worst SX4_worst := by
  refine Snd.of lX4_worst (by decide +kernel) (fun _ => rfl) ?_
  intro Γ hC hnt hnm J hJ L a
  match L with
  | 0 => exact pX4_worst_0 hC hnt J hJ a
  | 1 => exact pX4_worst_1 hC hnt J hJ a
  | L + 2 => exact c_no
/-! SpiritWall.worstLoop()I -/
theorem dX10_worstLoop_0 : decode cX10_worstLoop 0 = .ok (.aload_n 0, 1) := by decide +kernel
theorem dX10_worstLoop_1 : decode cX10_worstLoop 1 = .ok (.aload_n 0, 1) := by decide +kernel
theorem dX10_worstLoop_2 : decode cX10_worstLoop 2 = .ok (.getfield 31, 3) := by decide +kernel
theorem dX10_worstLoop_5 : decode cX10_worstLoop 5 = .ok (.invokevirtual 135, 3) := by decide +kernel
theorem dX10_worstLoop_8 : decode cX10_worstLoop 8 = .ok (.aload_n 0, 1) := by decide +kernel
theorem dX10_worstLoop_9 : decode cX10_worstLoop 9 = .ok (.getfield 80, 3) := by decide +kernel
theorem dX10_worstLoop_12 : decode cX10_worstLoop 12 = .ok (.invokevirtual 311, 3) := by decide +kernel
theorem dX10_worstLoop_15 : decode cX10_worstLoop 15 = .ok (.ireturn, 1) := by decide +kernel
def rmX10_worstLoop : Room := rmk 13 0 0 311
theorem nX10_worstLoop : nameOk yX10_worstLoop 0 = true := by decide +kernel
def bX10_worstLoop_0 (J : JT) : List Value → Sem
  | [.ref x0] =>
    gR 10 3 x0 fun r1 =>
    ob 10 x0 (cV SX10_survey [.ref x0, .ref r1] <|
    gR 10 10 x0 fun r2 =>
    ob 4 r2 (cI SX4_worst [.ref r2] fun v3 =>
    rI v3))
  | _ => no
def bX10_worstLoop (J : JT) : JT := fun L a => match L with
  | 0 => bX10_worstLoop_0 J a
  | _ => no
def SX10_worstLoop : ST := mk 1 bX10_worstLoop
def lX10_worstLoop (L : Nat) (a : List Value) : Nat × Nat × Nat × List (Nat × Value) × List Value := match L with
  | 0 => (0, 0, 0, lv_args 0 a, [])
  | _ => (0, 0, 0, [], [])
theorem pX10_worstLoop_0 {Γ : CT} (hC : Ctx Γ "SpiritWall" cX10_worstLoop 1 (some .int) rmX10_worstLoop) (hnt : NT Γ) (J : JT) (hJ : ∀ L a, Cor Γ 1 (lX10_worstLoop L a).1 (lX10_worstLoop L a).2.1 (lX10_worstLoop L a).2.2.1 (lX10_worstLoop L a).2.2.2.1 (lX10_worstLoop L a).2.2.2.2 (J L a)) (a : List Value) : Cor Γ 1 0 0 0 (lv_args 0 a) [] (bX10_worstLoop_0 J a) := by
  unfold bX10_worstLoop_0
  split
  · rename_i x0
    refine c_sub [0] rfl (loc' := [(0, .ref x0)]) ?_
    refine q_aload_n hC 0 dX10_worstLoop_0 rfl rfl ?_
    refine q_aload_n hC 0 dX10_worstLoop_1 rfl rfl ?_
    refine q_getR hC (by decide) (by decide) rfl w_133 dX10_worstLoop_2 (fun r1 => ?_)
    refine q_cVV hC hnt (stk := []) (as := [.ref r1]) sX10_survey (ci := 10) (by decide) rfl nX10_survey rfl w_552 w_554 w_555 w_27 w_553 (Nat.le_of_ble_eq_true rfl) dX10_worstLoop_5 rfl ?_
    refine q_aload_n hC 0 dX10_worstLoop_8 rfl rfl ?_
    refine q_getR hC (by decide) (by decide) rfl w_160 dX10_worstLoop_9 (fun r2 => ?_)
    refine q_cVI hC hnt (stk := []) (as := []) sX4_worst (ci := 4) (by decide) rfl nX4_worst rfl w_673 w_675 w_676 w_159 w_674 (Nat.le_of_ble_eq_true rfl) dX10_worstLoop_12 rfl (fun v3 => ?_)
    exact q_iret hC dX10_worstLoop_15 (Nat.le_of_ble_eq_true rfl) (Nat.le_of_ble_eq_true rfl)
  · exact c_no
theorem sX10_worstLoop : Snd yX10_worstLoop (.code yX10_worstLoop cX10_worstLoop 1 (some .int)) rmX10_worstLoop SX10_worstLoop := by
  refine Snd.of lX10_worstLoop (by decide +kernel) (fun _ => rfl) ?_
  intro Γ hC hnt hnm J hJ L a
  match L with
  | 0 => exact pX10_worstLoop_0 hC hnt J hJ a
  | L + 1 => exact c_no
/-! SpiritWall$Loops.suspectEdge()I -/
theorem dX4_suspectEdge_0 : decode cX4_suspectEdge 0 = .ok (.iconst (-1), 1) := by decide +kernel
theorem dX4_suspectEdge_1 : decode cX4_suspectEdge 1 = .ok (.istore_n 1, 1) := by decide +kernel
theorem dX4_suspectEdge_2 : decode cX4_suspectEdge 2 = .ok (.iconst 0, 1) := by decide +kernel
theorem dX4_suspectEdge_3 : decode cX4_suspectEdge 3 = .ok (.istore_n 2, 1) := by decide +kernel
theorem dX4_suspectEdge_4 : decode cX4_suspectEdge 4 = .ok (.iconst 0, 1) := by decide +kernel
theorem dX4_suspectEdge_5 : decode cX4_suspectEdge 5 = .ok (.istore_n 3, 1) := by decide +kernel
theorem dX4_suspectEdge_6 : decode cX4_suspectEdge 6 = .ok (.iconst 0, 1) := by decide +kernel
theorem dX4_suspectEdge_7 : decode cX4_suspectEdge 7 = .ok (.istore 4, 2) := by decide +kernel
theorem dX4_suspectEdge_9 : decode cX4_suspectEdge 9 = .ok (.iload 4, 2) := by decide +kernel
theorem dX4_suspectEdge_11 : decode cX4_suspectEdge 11 = .ok (.aload_n 0, 1) := by decide +kernel
theorem dX4_suspectEdge_12 : decode cX4_suspectEdge 12 = .ok (.getfield 37, 3) := by decide +kernel
theorem dX4_suspectEdge_15 : decode cX4_suspectEdge 15 = .ok (.getfield 49, 3) := by decide +kernel
theorem dX4_suspectEdge_18 : decode cX4_suspectEdge 18 = .ok (.if_icmp .ge 66, 3) := by decide +kernel
theorem dX4_suspectEdge_21 : decode cX4_suspectEdge 21 = .ok (.aload_n 0, 1) := by decide +kernel
theorem dX4_suspectEdge_22 : decode cX4_suspectEdge 22 = .ok (.getfield 34, 3) := by decide +kernel
theorem dX4_suspectEdge_25 : decode cX4_suspectEdge 25 = .ok (.iload 4, 2) := by decide +kernel
theorem dX4_suspectEdge_27 : decode cX4_suspectEdge 27 = .ok (.invokestatic 57, 3) := by decide +kernel
theorem dX4_suspectEdge_30 : decode cX4_suspectEdge 30 = .ok (.istore 5, 2) := by decide +kernel
theorem dX4_suspectEdge_32 : decode cX4_suspectEdge 32 = .ok (.aload_n 0, 1) := by decide +kernel
theorem dX4_suspectEdge_33 : decode cX4_suspectEdge 33 = .ok (.getfield 31, 3) := by decide +kernel
theorem dX4_suspectEdge_36 : decode cX4_suspectEdge 36 = .ok (.iload 4, 2) := by decide +kernel
theorem dX4_suspectEdge_38 : decode cX4_suspectEdge 38 = .ok (.invokestatic 57, 3) := by decide +kernel
theorem dX4_suspectEdge_41 : decode cX4_suspectEdge 41 = .ok (.iload 5, 2) := by decide +kernel
theorem dX4_suspectEdge_43 : decode cX4_suspectEdge 43 = .ok (.isub, 1) := by decide +kernel
theorem dX4_suspectEdge_44 : decode cX4_suspectEdge 44 = .ok (.istore 6, 2) := by decide +kernel
theorem dX4_suspectEdge_46 : decode cX4_suspectEdge 46 = .ok (.iload 5, 2) := by decide +kernel
theorem dX4_suspectEdge_48 : decode cX4_suspectEdge 48 = .ok (.iload_n 2, 1) := by decide +kernel
theorem dX4_suspectEdge_49 : decode cX4_suspectEdge 49 = .ok (.if_icmp .gt 20, 3) := by decide +kernel
theorem dX4_suspectEdge_52 : decode cX4_suspectEdge 52 = .ok (.iload 5, 2) := by decide +kernel
theorem dX4_suspectEdge_54 : decode cX4_suspectEdge 54 = .ok (.ifCond .le 24, 3) := by decide +kernel
theorem dX4_suspectEdge_57 : decode cX4_suspectEdge 57 = .ok (.iload 5, 2) := by decide +kernel
theorem dX4_suspectEdge_59 : decode cX4_suspectEdge 59 = .ok (.iload_n 2, 1) := by decide +kernel
theorem dX4_suspectEdge_60 : decode cX4_suspectEdge 60 = .ok (.if_icmp .ne 18, 3) := by decide +kernel
theorem dX4_suspectEdge_63 : decode cX4_suspectEdge 63 = .ok (.iload 6, 2) := by decide +kernel
theorem dX4_suspectEdge_65 : decode cX4_suspectEdge 65 = .ok (.iload_n 3, 1) := by decide +kernel
theorem dX4_suspectEdge_66 : decode cX4_suspectEdge 66 = .ok (.if_icmp .ge 12, 3) := by decide +kernel
theorem dX4_suspectEdge_69 : decode cX4_suspectEdge 69 = .ok (.iload 4, 2) := by decide +kernel
theorem dX4_suspectEdge_71 : decode cX4_suspectEdge 71 = .ok (.istore_n 1, 1) := by decide +kernel
theorem dX4_suspectEdge_72 : decode cX4_suspectEdge 72 = .ok (.iload 5, 2) := by decide +kernel
theorem dX4_suspectEdge_74 : decode cX4_suspectEdge 74 = .ok (.istore_n 2, 1) := by decide +kernel
theorem dX4_suspectEdge_75 : decode cX4_suspectEdge 75 = .ok (.iload 6, 2) := by decide +kernel
theorem dX4_suspectEdge_77 : decode cX4_suspectEdge 77 = .ok (.istore_n 3, 1) := by decide +kernel
theorem dX4_suspectEdge_78 : decode cX4_suspectEdge 78 = .ok (.iinc 4 1, 3) := by decide +kernel
theorem dX4_suspectEdge_81 : decode cX4_suspectEdge 81 = .ok (.goto (-72), 3) := by decide +kernel
theorem dX4_suspectEdge_84 : decode cX4_suspectEdge 84 = .ok (.iload_n 1, 1) := by decide +kernel
theorem dX4_suspectEdge_85 : decode cX4_suspectEdge 85 = .ok (.ireturn, 1) := by decide +kernel
def rmX4_suspectEdge : Room := rmk 7 0 0 171
theorem nX4_suspectEdge : nameOk yX4_suspectEdge 0 = true := by decide +kernel
def bX4_suspectEdge_0 (J : JT) : List Value → Sem
  | [.ref x0] =>
    J 1 [.ref x0, .int (-1), .int 0, .int 0, .int 0]
  | _ => no
def bX4_suspectEdge_1 (J : JT) : List Value → Sem
  | [.ref x0, .int x1, .int x2, .int x3, .int x4] =>
    gR 4 0 x0 fun r1 =>
    gI 0 3 r1 fun v2 =>
    br (v2 ≤ x4)
    (rI x1)
    (gR 4 9 x0 fun r3 =>
    cI SX10_cell [.ref r3, .int x4] fun v4 =>
    gR 4 8 x0 fun r5 =>
    cI SX10_cell [.ref r5, .int x4] fun v6 =>
    lI (v6 - v4) fun y6_7 =>
    br (x2 < v4)
    (J 1 [.ref x0, .int x4, .int v4, .int y6_7, .int (x4 + 1)])
    (br (v4 ≤ 0)
    (J 1 [.ref x0, .int x1, .int x2, .int x3, .int (x4 + 1)])
    (br (v4 = x2)
    (br (x3 ≤ y6_7)
    (J 1 [.ref x0, .int x1, .int x2, .int x3, .int (x4 + 1)])
    (J 1 [.ref x0, .int x4, .int v4, .int y6_7, .int (x4 + 1)]))
    (J 1 [.ref x0, .int x1, .int x2, .int x3, .int (x4 + 1)]))))
  | _ => no
def bX4_suspectEdge (J : JT) : JT := fun L a => match L with
  | 0 => bX4_suspectEdge_0 J a
  | 1 => bX4_suspectEdge_1 J a
  | _ => no
def SX4_suspectEdge : ST := mk 7 bX4_suspectEdge
def lX4_suspectEdge (L : Nat) (a : List Value) : Nat × Nat × Nat × List (Nat × Value) × List Value := match L with
  | 0 => (0, 0, 0, lv_args 0 a, [])
  | 1 => (0, 0, 9, List.zip [0, 1, 2, 3, 4] a, [])
  | _ => (0, 0, 0, [], [])
theorem pX4_suspectEdge_0 {Γ : CT} (hC : Ctx Γ "SpiritWall$Loops" cX4_suspectEdge 7 (some .int) rmX4_suspectEdge) (hnt : NT Γ) (J : JT) (hJ : ∀ L a, Cor Γ 7 (lX4_suspectEdge L a).1 (lX4_suspectEdge L a).2.1 (lX4_suspectEdge L a).2.2.1 (lX4_suspectEdge L a).2.2.2.1 (lX4_suspectEdge L a).2.2.2.2 (J L a)) (a : List Value) : Cor Γ 7 0 0 0 (lv_args 0 a) [] (bX4_suspectEdge_0 J a) := by
  unfold bX4_suspectEdge_0
  split
  · rename_i x0
    refine c_sub [0] rfl (loc' := [(0, .ref x0)]) ?_
    refine q_iconst hC dX4_suspectEdge_0 rfl ?_
    refine q_istore_nA hC (loc' := [(1, .int (-1)), (0, .ref x0)]) dX4_suspectEdge_1 rfl (Nat.le_of_ble_eq_true rfl) rfl ?_
    refine q_iconst hC dX4_suspectEdge_2 rfl ?_
    refine q_istore_nA hC (loc' := [(2, .int 0), (1, .int (-1)), (0, .ref x0)]) dX4_suspectEdge_3 rfl (Nat.le_of_ble_eq_true rfl) rfl ?_
    refine q_iconst hC dX4_suspectEdge_4 rfl ?_
    refine q_istore_nA hC (loc' := [(3, .int 0), (2, .int 0), (1, .int (-1)), (0, .ref x0)]) dX4_suspectEdge_5 rfl (Nat.le_of_ble_eq_true rfl) rfl ?_
    refine q_iconst hC dX4_suspectEdge_6 rfl ?_
    refine q_istoreA hC (loc' := [(4, .int 0), (3, .int 0), (2, .int 0), (1, .int (-1)), (0, .ref x0)]) dX4_suspectEdge_7 (Nat.le_of_ble_eq_true rfl) rfl ?_
    exact c_sub [4, 3, 2, 1, 0] rfl (hJ 1 [.ref x0, .int (-1), .int 0, .int 0, .int 0])
  · exact c_no
theorem pX4_suspectEdge_1 {Γ : CT} (hC : Ctx Γ "SpiritWall$Loops" cX4_suspectEdge 7 (some .int) rmX4_suspectEdge) (hnt : NT Γ) (J : JT) (hJ : ∀ L a, Cor Γ 7 (lX4_suspectEdge L a).1 (lX4_suspectEdge L a).2.1 (lX4_suspectEdge L a).2.2.1 (lX4_suspectEdge L a).2.2.2.1 (lX4_suspectEdge L a).2.2.2.2 (J L a)) (a : List Value) : Cor Γ 7 0 0 9 (List.zip [0, 1, 2, 3, 4] a) [] (bX4_suspectEdge_1 J a) := by
  unfold bX4_suspectEdge_1
  split
  · rename_i x0 x1 x2 x3 x4
    refine c_sub [0, 1, 2, 3, 4] rfl (loc' := [(0, .ref x0), (1, .int x1), (2, .int x2), (3, .int x3), (4, .int x4)]) ?_
    refine q_iload hC 4 dX4_suspectEdge_9 rfl ?_
    refine q_aload_n hC 0 dX4_suspectEdge_11 rfl rfl ?_
    refine q_getR hC (by decide) (by decide) rfl w_118 dX4_suspectEdge_12 (fun r1 => ?_)
    refine q_getI hC (by decide) (by decide) rfl w_522 dX4_suspectEdge_15 (fun v2 => ?_)
    refine q_ic_ge hC 84 dX4_suspectEdge_18 rfl ?_ ?_
    · refine q_iload_n hC 1 dX4_suspectEdge_84 rfl rfl ?_
      exact q_iret hC dX4_suspectEdge_85 (Nat.le_of_ble_eq_true rfl) (Nat.le_of_ble_eq_true rfl)
    · refine q_aload_n hC 0 dX4_suspectEdge_21 rfl rfl ?_
      refine q_getR hC (by decide) (by decide) rfl w_117 dX4_suspectEdge_22 (fun r3 => ?_)
      refine q_iload hC 4 dX4_suspectEdge_25 rfl ?_
      refine q_cNI hC hnt (stk := []) (as := [.ref r3, .int x4]) sX10_cell nX10_cell rfl w_501 w_202 w_27 w_201 (Nat.le_of_ble_eq_true rfl) dX4_suspectEdge_27 rfl (fun v4 => ?_)
      refine q_istoreA hC (loc' := [(5, .int v4), (0, .ref x0), (1, .int x1), (2, .int x2), (3, .int x3), (4, .int x4)]) dX4_suspectEdge_30 (Nat.le_of_ble_eq_true rfl) rfl ?_
      refine q_aload_n hC 1 dX4_suspectEdge_32 rfl rfl ?_
      refine q_getR hC (by decide) (by decide) rfl w_116 dX4_suspectEdge_33 (fun r5 => ?_)
      refine q_iload hC 5 dX4_suspectEdge_36 rfl ?_
      refine q_cNI hC hnt (stk := []) (as := [.ref r5, .int x4]) sX10_cell nX10_cell rfl w_501 w_202 w_27 w_201 (Nat.le_of_ble_eq_true rfl) dX4_suspectEdge_38 rfl (fun v6 => ?_)
      refine q_iload hC 0 dX4_suspectEdge_41 rfl ?_
      refine q_isub hC dX4_suspectEdge_43 ?_
      refine q_istore hC (fun y6_7 => [(6, .int y6_7), (5, .int v4), (0, .ref x0), (1, .int x1), (2, .int x2), (3, .int x3), (4, .int x4)]) dX4_suspectEdge_44 (Nat.le_of_ble_eq_true rfl) (fun _ => rfl) (fun y6_7 => ?_)
      refine q_iload hC 1 dX4_suspectEdge_46 rfl ?_
      refine q_iload_n hC 4 dX4_suspectEdge_48 rfl rfl ?_
      refine q_ic_gt hC 69 dX4_suspectEdge_49 rfl ?_ ?_
      · refine q_iload hC 6 dX4_suspectEdge_69 rfl ?_
        refine q_istore_nA hC (loc' := [(1, .int x4), (6, .int y6_7), (5, .int v4), (0, .ref x0), (2, .int x2), (3, .int x3), (4, .int x4)]) dX4_suspectEdge_71 rfl (Nat.le_of_ble_eq_true rfl) rfl ?_
        refine q_iload hC 2 dX4_suspectEdge_72 rfl ?_
        refine q_istore_nA hC (loc' := [(2, .int v4), (1, .int x4), (6, .int y6_7), (5, .int v4), (0, .ref x0), (3, .int x3), (4, .int x4)]) dX4_suspectEdge_74 rfl (Nat.le_of_ble_eq_true rfl) rfl ?_
        refine q_iload hC 2 dX4_suspectEdge_75 rfl ?_
        refine q_istore_nA hC (loc' := [(3, .int y6_7), (2, .int v4), (1, .int x4), (6, .int y6_7), (5, .int v4), (0, .ref x0), (4, .int x4)]) dX4_suspectEdge_77 rfl (Nat.le_of_ble_eq_true rfl) rfl ?_
        refine q_iincA hC (loc' := [(4, .int (x4 + 1)), (3, .int y6_7), (2, .int v4), (1, .int x4), (6, .int y6_7), (5, .int v4), (0, .ref x0)]) 6 1 dX4_suspectEdge_78 rfl rfl (Nat.le_of_ble_eq_true rfl) rfl ?_
        refine q_goto hC 9 dX4_suspectEdge_81 rfl ?_
        exact c_sub [6, 3, 2, 1, 0] rfl (hJ 1 [.ref x0, .int x4, .int v4, .int y6_7, .int (x4 + 1)])
      · refine q_iload hC 1 dX4_suspectEdge_52 rfl ?_
        refine q_if_le hC 78 dX4_suspectEdge_54 rfl ?_ ?_
        · refine q_iincA hC (loc' := [(4, .int (x4 + 1)), (6, .int y6_7), (5, .int v4), (0, .ref x0), (1, .int x1), (2, .int x2), (3, .int x3)]) 6 1 dX4_suspectEdge_78 rfl rfl (Nat.le_of_ble_eq_true rfl) rfl ?_
          refine q_goto hC 9 dX4_suspectEdge_81 rfl ?_
          exact c_sub [3, 4, 5, 6, 0] rfl (hJ 1 [.ref x0, .int x1, .int x2, .int x3, .int (x4 + 1)])
        · refine q_iload hC 1 dX4_suspectEdge_57 rfl ?_
          refine q_iload_n hC 4 dX4_suspectEdge_59 rfl rfl ?_
          refine q_ic_ne hC 78 dX4_suspectEdge_60 rfl ?_ ?_
          · refine q_iincA hC (loc' := [(4, .int (x4 + 1)), (6, .int y6_7), (5, .int v4), (0, .ref x0), (1, .int x1), (2, .int x2), (3, .int x3)]) 6 1 dX4_suspectEdge_78 rfl rfl (Nat.le_of_ble_eq_true rfl) rfl ?_
            refine q_goto hC 9 dX4_suspectEdge_81 rfl ?_
            exact c_sub [3, 4, 5, 6, 0] rfl (hJ 1 [.ref x0, .int x1, .int x2, .int x3, .int (x4 + 1)])
          · refine q_iload hC 0 dX4_suspectEdge_63 rfl ?_
            refine q_iload_n hC 5 dX4_suspectEdge_65 rfl rfl ?_
            refine q_ic_ge hC 78 dX4_suspectEdge_66 rfl ?_ ?_
            · refine q_iincA hC (loc' := [(4, .int (x4 + 1)), (6, .int y6_7), (5, .int v4), (0, .ref x0), (1, .int x1), (2, .int x2), (3, .int x3)]) 6 1 dX4_suspectEdge_78 rfl rfl (Nat.le_of_ble_eq_true rfl) rfl ?_
              refine q_goto hC 9 dX4_suspectEdge_81 rfl ?_
              exact c_sub [3, 4, 5, 6, 0] rfl (hJ 1 [.ref x0, .int x1, .int x2, .int x3, .int (x4 + 1)])
            · refine q_iload hC 6 dX4_suspectEdge_69 rfl ?_
              refine q_istore_nA hC (loc' := [(1, .int x4), (6, .int y6_7), (5, .int v4), (0, .ref x0), (2, .int x2), (3, .int x3), (4, .int x4)]) dX4_suspectEdge_71 rfl (Nat.le_of_ble_eq_true rfl) rfl ?_
              refine q_iload hC 2 dX4_suspectEdge_72 rfl ?_
              refine q_istore_nA hC (loc' := [(2, .int v4), (1, .int x4), (6, .int y6_7), (5, .int v4), (0, .ref x0), (3, .int x3), (4, .int x4)]) dX4_suspectEdge_74 rfl (Nat.le_of_ble_eq_true rfl) rfl ?_
              refine q_iload hC 2 dX4_suspectEdge_75 rfl ?_
              refine q_istore_nA hC (loc' := [(3, .int y6_7), (2, .int v4), (1, .int x4), (6, .int y6_7), (5, .int v4), (0, .ref x0), (4, .int x4)]) dX4_suspectEdge_77 rfl (Nat.le_of_ble_eq_true rfl) rfl ?_
              refine q_iincA hC (loc' := [(4, .int (x4 + 1)), (3, .int y6_7), (2, .int v4), (1, .int x4), (6, .int y6_7), (5, .int v4), (0, .ref x0)]) 6 1 dX4_suspectEdge_78 rfl rfl (Nat.le_of_ble_eq_true rfl) rfl ?_
              refine q_goto hC 9 dX4_suspectEdge_81 rfl ?_
              exact c_sub [6, 3, 2, 1, 0] rfl (hJ 1 [.ref x0, .int x4, .int v4, .int y6_7, .int (x4 + 1)])
  · exact c_no
theorem sX4_suspectEdge : Snd yX4_suspectEdge (.code yX4_suspectEdge cX4_suspectEdge 7 (some .int)) rmX4_suspectEdge SX4_suspectEdge := by
  refine Snd.of lX4_suspectEdge (by decide +kernel) (fun _ => rfl) ?_
  intro Γ hC hnt hnm J hJ L a
  match L with
  | 0 => exact pX4_suspectEdge_0 hC hnt J hJ a
  | 1 => exact pX4_suspectEdge_1 hC hnt J hJ a
  | L + 2 => exact c_no
/-! SpiritWall.suspect()I -/
theorem dX10_suspect_0 : decode cX10_suspect 0 = .ok (.aload_n 0, 1) := by decide +kernel
theorem dX10_suspect_1 : decode cX10_suspect 1 = .ok (.aload_n 0, 1) := by decide +kernel
theorem dX10_suspect_2 : decode cX10_suspect 2 = .ok (.getfield 31, 3) := by decide +kernel
theorem dX10_suspect_5 : decode cX10_suspect 5 = .ok (.invokevirtual 135, 3) := by decide +kernel
theorem dX10_suspect_8 : decode cX10_suspect 8 = .ok (.aload_n 0, 1) := by decide +kernel
theorem dX10_suspect_9 : decode cX10_suspect 9 = .ok (.getfield 80, 3) := by decide +kernel
theorem dX10_suspect_12 : decode cX10_suspect 12 = .ok (.invokevirtual 314, 3) := by decide +kernel
theorem dX10_suspect_15 : decode cX10_suspect 15 = .ok (.istore_n 1, 1) := by decide +kernel
theorem dX10_suspect_16 : decode cX10_suspect 16 = .ok (.iload_n 1, 1) := by decide +kernel
theorem dX10_suspect_17 : decode cX10_suspect 17 = .ok (.iconst (-1), 1) := by decide +kernel
theorem dX10_suspect_18 : decode cX10_suspect 18 = .ok (.if_icmp .ne 7, 3) := by decide +kernel
theorem dX10_suspect_21 : decode cX10_suspect 21 = .ok (.iconst (-1), 1) := by decide +kernel
theorem dX10_suspect_22 : decode cX10_suspect 22 = .ok (.goto 28, 3) := by decide +kernel
theorem dX10_suspect_25 : decode cX10_suspect 25 = .ok (.aload_n 0, 1) := by decide +kernel
theorem dX10_suspect_26 : decode cX10_suspect 26 = .ok (.getfield 62, 3) := by decide +kernel
theorem dX10_suspect_29 : decode cX10_suspect 29 = .ok (.getfield 317, 3) := by decide +kernel
theorem dX10_suspect_32 : decode cX10_suspect 32 = .ok (.iload_n 1, 1) := by decide +kernel
theorem dX10_suspect_33 : decode cX10_suspect 33 = .ok (.invokestatic 190, 3) := by decide +kernel
theorem dX10_suspect_36 : decode cX10_suspect 36 = .ok (.aload_n 0, 1) := by decide +kernel
theorem dX10_suspect_37 : decode cX10_suspect 37 = .ok (.getfield 62, 3) := by decide +kernel
theorem dX10_suspect_40 : decode cX10_suspect 40 = .ok (.getfield 320, 3) := by decide +kernel
theorem dX10_suspect_43 : decode cX10_suspect 43 = .ok (.iload_n 1, 1) := by decide +kernel
theorem dX10_suspect_44 : decode cX10_suspect 44 = .ok (.invokestatic 190, 3) := by decide +kernel
theorem dX10_suspect_47 : decode cX10_suspect 47 = .ok (.invokestatic 323, 3) := by decide +kernel
theorem dX10_suspect_50 : decode cX10_suspect 50 = .ok (.ireturn, 1) := by decide +kernel
def rmX10_suspect : Room := rmk 13 0 0 311
theorem nX10_suspect : nameOk yX10_suspect 0 = true := by decide +kernel
def bX10_suspect_0 (J : JT) : List Value → Sem
  | [.ref x0] =>
    gR 10 3 x0 fun r1 =>
    ob 10 x0 (cV SX10_survey [.ref x0, .ref r1] <|
    gR 10 10 x0 fun r2 =>
    ob 4 r2 (cI SX4_suspectEdge [.ref r2] fun v3 =>
    br (v3 = ((-1) : Int32))
    (rI (-1))
    (gR 10 8 x0 fun r4 =>
    gR 0 8 r4 fun r5 =>
    cI SX10_cell [.ref r5, .int v3] fun v6 =>
    gR 10 8 x0 fun r7 =>
    gR 0 9 r7 fun r8 =>
    cI SX10_cell [.ref r8, .int v3] fun v9 =>
    cI SX10_pairOf [.int v6, .int v9] fun v10 =>
    rI v10)))
  | _ => no
def bX10_suspect (J : JT) : JT := fun L a => match L with
  | 0 => bX10_suspect_0 J a
  | _ => no
def SX10_suspect : ST := mk 2 bX10_suspect
def lX10_suspect (L : Nat) (a : List Value) : Nat × Nat × Nat × List (Nat × Value) × List Value := match L with
  | 0 => (0, 0, 0, lv_args 0 a, [])
  | _ => (0, 0, 0, [], [])
theorem pX10_suspect_0 {Γ : CT} (hC : Ctx Γ "SpiritWall" cX10_suspect 2 (some .int) rmX10_suspect) (hnt : NT Γ) (J : JT) (hJ : ∀ L a, Cor Γ 2 (lX10_suspect L a).1 (lX10_suspect L a).2.1 (lX10_suspect L a).2.2.1 (lX10_suspect L a).2.2.2.1 (lX10_suspect L a).2.2.2.2 (J L a)) (a : List Value) : Cor Γ 2 0 0 0 (lv_args 0 a) [] (bX10_suspect_0 J a) := by
  unfold bX10_suspect_0
  split
  · rename_i x0
    refine c_sub [0] rfl (loc' := [(0, .ref x0)]) ?_
    refine q_aload_n hC 0 dX10_suspect_0 rfl rfl ?_
    refine q_aload_n hC 0 dX10_suspect_1 rfl rfl ?_
    refine q_getR hC (by decide) (by decide) rfl w_133 dX10_suspect_2 (fun r1 => ?_)
    refine q_cVV hC hnt (stk := []) (as := [.ref r1]) sX10_survey (ci := 10) (by decide) rfl nX10_survey rfl w_552 w_554 w_555 w_27 w_553 (Nat.le_of_ble_eq_true rfl) dX10_suspect_5 rfl ?_
    refine q_aload_n hC 0 dX10_suspect_8 rfl rfl ?_
    refine q_getR hC (by decide) (by decide) rfl w_160 dX10_suspect_9 (fun r2 => ?_)
    refine q_cVI hC hnt (stk := []) (as := []) sX4_suspectEdge (ci := 4) (by decide) rfl nX4_suspectEdge rfl w_677 w_679 w_680 w_159 w_678 (Nat.le_of_ble_eq_true rfl) dX10_suspect_12 rfl (fun v3 => ?_)
    refine q_istore_nA hC (loc' := [(1, .int v3), (0, .ref x0)]) dX10_suspect_15 rfl (Nat.le_of_ble_eq_true rfl) rfl ?_
    refine q_iload_n hC 0 dX10_suspect_16 rfl rfl ?_
    refine q_iconst hC dX10_suspect_17 rfl ?_
    refine q_ic_ne hC 25 dX10_suspect_18 rfl ?_ ?_
    · refine q_aload_n hC 1 dX10_suspect_25 rfl rfl ?_
      refine q_getR hC (by decide) (by decide) rfl w_150 dX10_suspect_26 (fun r4 => ?_)
      refine q_getR hC (by decide) (by decide) rfl w_681 dX10_suspect_29 (fun r5 => ?_)
      refine q_iload_n hC 0 dX10_suspect_32 rfl rfl ?_
      refine q_cSI hC hnt (stk := []) (as := [.ref r5, .int v3]) sX10_cell nX10_cell rfl w_408 w_202 w_27 w_201 (Nat.le_of_ble_eq_true rfl) dX10_suspect_33 rfl (fun v6 => ?_)
      refine q_aload_n hC 1 dX10_suspect_36 rfl rfl ?_
      refine q_getR hC (by decide) (by decide) rfl w_150 dX10_suspect_37 (fun r7 => ?_)
      refine q_getR hC (by decide) (by decide) rfl w_682 dX10_suspect_40 (fun r8 => ?_)
      refine q_iload_n hC 0 dX10_suspect_43 rfl rfl ?_
      refine q_cSI hC hnt (stk := [.int v6]) (as := [.ref r8, .int v3]) sX10_cell nX10_cell rfl w_408 w_202 w_27 w_201 (Nat.le_of_ble_eq_true rfl) dX10_suspect_44 rfl (fun v9 => ?_)
      refine q_cSI hC hnt (stk := []) (as := [.int v6, .int v9]) sX10_pairOf nX10_pairOf rfl w_683 w_398 w_27 w_397 (Nat.le_of_ble_eq_true rfl) dX10_suspect_47 rfl (fun v10 => ?_)
      exact q_iret hC dX10_suspect_50 (Nat.le_of_ble_eq_true rfl) (Nat.le_of_ble_eq_true rfl)
    · refine q_iconst hC dX10_suspect_21 rfl ?_
      refine q_goto hC 50 dX10_suspect_22 rfl ?_
      exact q_iret hC dX10_suspect_50 (Nat.le_of_ble_eq_true rfl) (Nat.le_of_ble_eq_true rfl)
  · exact c_no
theorem sX10_suspect : Snd yX10_suspect (.code yX10_suspect cX10_suspect 2 (some .int)) rmX10_suspect SX10_suspect := by
  refine Snd.of lX10_suspect (by decide +kernel) (fun _ => rfl) ?_
  intro Γ hC hnt hnm J hJ L a
  match L with
  | 0 => exact pX10_suspect_0 hC hnt J hJ a
  | L + 1 => exact c_no
/-! java/lang/Math.abs(I)I -/
theorem dJ9_abs_0f7a4_0 : decode cJ9_abs_0f7a4 0 = .ok (.iload_n 0, 1) := by decide +kernel
theorem dJ9_abs_0f7a4_1 : decode cJ9_abs_0f7a4 1 = .ok (.ifCond .ge 8, 3) := by decide +kernel
theorem dJ9_abs_0f7a4_4 : decode cJ9_abs_0f7a4 4 = .ok (.iload_n 0, 1) := by decide +kernel
theorem dJ9_abs_0f7a4_5 : decode cJ9_abs_0f7a4 5 = .ok (.ineg, 1) := by decide +kernel
theorem dJ9_abs_0f7a4_6 : decode cJ9_abs_0f7a4 6 = .ok (.goto 4, 3) := by decide +kernel
theorem dJ9_abs_0f7a4_9 : decode cJ9_abs_0f7a4 9 = .ok (.iload_n 0, 1) := by decide +kernel
theorem dJ9_abs_0f7a4_10 : decode cJ9_abs_0f7a4 10 = .ok (.ireturn, 1) := by decide +kernel
def rmJ9_abs_0f7a4 : Room := rmk 6 0 0 150
theorem nJ9_abs_0f7a4 : nameOk yJ9_abs_0f7a4 1 = true := by decide +kernel
def bJ9_abs_0f7a4_0 (J : JT) : List Value → Sem
  | [.int x0] =>
    br (0 ≤ x0)
    (rI x0)
    (rI (-x0))
  | _ => no
def bJ9_abs_0f7a4 (J : JT) : JT := fun L a => match L with
  | 0 => bJ9_abs_0f7a4_0 J a
  | _ => no
def SJ9_abs_0f7a4 : ST := mk 1 bJ9_abs_0f7a4
def lJ9_abs_0f7a4 (L : Nat) (a : List Value) : Nat × Nat × Nat × List (Nat × Value) × List Value := match L with
  | 0 => (0, 0, 0, lv_args 0 a, [])
  | _ => (0, 0, 0, [], [])
theorem pJ9_abs_0f7a4_0 {Γ : CT} (hC : Ctx Γ "java/lang/Math" cJ9_abs_0f7a4 1 (some .int) rmJ9_abs_0f7a4) (hnt : NT Γ) (J : JT) (hJ : ∀ L a, Cor Γ 1 (lJ9_abs_0f7a4 L a).1 (lJ9_abs_0f7a4 L a).2.1 (lJ9_abs_0f7a4 L a).2.2.1 (lJ9_abs_0f7a4 L a).2.2.2.1 (lJ9_abs_0f7a4 L a).2.2.2.2 (J L a)) (a : List Value) : Cor Γ 1 0 0 0 (lv_args 0 a) [] (bJ9_abs_0f7a4_0 J a) := by
  unfold bJ9_abs_0f7a4_0
  split
  · rename_i x0
    refine c_sub [0] rfl (loc' := [(0, .int x0)]) ?_
    refine q_iload_n hC 0 dJ9_abs_0f7a4_0 rfl rfl ?_
    refine q_if_ge hC 9 dJ9_abs_0f7a4_1 rfl ?_ ?_
    · refine q_iload_n hC 0 dJ9_abs_0f7a4_9 rfl rfl ?_
      exact q_iret hC dJ9_abs_0f7a4_10 (Nat.le_of_ble_eq_true rfl) (Nat.le_of_ble_eq_true rfl)
    · refine q_iload_n hC 0 dJ9_abs_0f7a4_4 rfl rfl ?_
      refine q_ineg hC dJ9_abs_0f7a4_5 ?_
      refine q_goto hC 10 dJ9_abs_0f7a4_6 rfl ?_
      exact q_iret hC dJ9_abs_0f7a4_10 (Nat.le_of_ble_eq_true rfl) (Nat.le_of_ble_eq_true rfl)
  · exact c_no
theorem sJ9_abs_0f7a4 : Snd yJ9_abs_0f7a4 (.code yJ9_abs_0f7a4 cJ9_abs_0f7a4 1 (some .int)) rmJ9_abs_0f7a4 SJ9_abs_0f7a4 := by
  refine Snd.ofF lJ9_abs_0f7a4 (by decide +kernel) (fun _ => rfl) ?_
  intro Γ hC hnt hnm J hJ L a
  match L with
  | 0 => exact pJ9_abs_0f7a4_0 hC hnt J hJ a
  | L + 1 => exact c_no
