/-! SpiritWall$Edges.outlyingSight()I -/
theorem dX0_outlyingSight_0 : decode cX0_outlyingSight 0 = .ok (.iconst (-1), 1) := by decide +kernel
theorem dX0_outlyingSight_1 : decode cX0_outlyingSight 1 = .ok (.istore_n 1, 1) := by decide +kernel
theorem dX0_outlyingSight_2 : decode cX0_outlyingSight 2 = .ok (.iconst (-1), 1) := by decide +kernel
theorem dX0_outlyingSight_3 : decode cX0_outlyingSight 3 = .ok (.istore_n 2, 1) := by decide +kernel
theorem dX0_outlyingSight_4 : decode cX0_outlyingSight 4 = .ok (.iconst 0, 1) := by decide +kernel
theorem dX0_outlyingSight_5 : decode cX0_outlyingSight 5 = .ok (.istore_n 3, 1) := by decide +kernel
theorem dX0_outlyingSight_6 : decode cX0_outlyingSight 6 = .ok (.iload_n 3, 1) := by decide +kernel
theorem dX0_outlyingSight_7 : decode cX0_outlyingSight 7 = .ok (.aload_n 0, 1) := by decide +kernel
theorem dX0_outlyingSight_8 : decode cX0_outlyingSight 8 = .ok (.getfield 62, 3) := by decide +kernel
theorem dX0_outlyingSight_11 : decode cX0_outlyingSight 11 = .ok (.getfield 97, 3) := by decide +kernel
theorem dX0_outlyingSight_14 : decode cX0_outlyingSight 14 = .ok (.if_icmp .ge 81, 3) := by decide +kernel
theorem dX0_outlyingSight_17 : decode cX0_outlyingSight 17 = .ok (.aload_n 0, 1) := by decide +kernel
theorem dX0_outlyingSight_18 : decode cX0_outlyingSight 18 = .ok (.getfield 62, 3) := by decide +kernel
theorem dX0_outlyingSight_21 : decode cX0_outlyingSight 21 = .ok (.iload_n 3, 1) := by decide +kernel
theorem dX0_outlyingSight_22 : decode cX0_outlyingSight 22 = .ok (.invokevirtual 142, 3) := by decide +kernel
theorem dX0_outlyingSight_25 : decode cX0_outlyingSight 25 = .ok (.ifCond .eq 64, 3) := by decide +kernel
theorem dX0_outlyingSight_28 : decode cX0_outlyingSight 28 = .ok (.aload_n 0, 1) := by decide +kernel
theorem dX0_outlyingSight_29 : decode cX0_outlyingSight 29 = .ok (.getfield 40, 3) := by decide +kernel
theorem dX0_outlyingSight_32 : decode cX0_outlyingSight 32 = .ok (.aload_n 0, 1) := by decide +kernel
theorem dX0_outlyingSight_33 : decode cX0_outlyingSight 33 = .ok (.iload_n 3, 1) := by decide +kernel
theorem dX0_outlyingSight_34 : decode cX0_outlyingSight 34 = .ok (.invokevirtual 155, 3) := by decide +kernel
theorem dX0_outlyingSight_37 : decode cX0_outlyingSight 37 = .ok (.invokestatic 102, 3) := by decide +kernel
theorem dX0_outlyingSight_40 : decode cX0_outlyingSight 40 = .ok (.iconst 3, 1) := by decide +kernel
theorem dX0_outlyingSight_41 : decode cX0_outlyingSight 41 = .ok (.if_icmp .ge 6, 3) := by decide +kernel
theorem dX0_outlyingSight_44 : decode cX0_outlyingSight 44 = .ok (.goto 45, 3) := by decide +kernel
theorem dX0_outlyingSight_47 : decode cX0_outlyingSight 47 = .ok (.aload_n 0, 1) := by decide +kernel
theorem dX0_outlyingSight_48 : decode cX0_outlyingSight 48 = .ok (.iload_n 3, 1) := by decide +kernel
theorem dX0_outlyingSight_49 : decode cX0_outlyingSight 49 = .ok (.invokevirtual 167, 3) := by decide +kernel
theorem dX0_outlyingSight_52 : decode cX0_outlyingSight 52 = .ok (.aload_n 0, 1) := by decide +kernel
theorem dX0_outlyingSight_53 : decode cX0_outlyingSight 53 = .ok (.aload_n 0, 1) := by decide +kernel
theorem dX0_outlyingSight_54 : decode cX0_outlyingSight 54 = .ok (.iload_n 3, 1) := by decide +kernel
theorem dX0_outlyingSight_55 : decode cX0_outlyingSight 55 = .ok (.invokevirtual 155, 3) := by decide +kernel
theorem dX0_outlyingSight_58 : decode cX0_outlyingSight 58 = .ok (.aload_n 0, 1) := by decide +kernel
theorem dX0_outlyingSight_59 : decode cX0_outlyingSight 59 = .ok (.getfield 62, 3) := by decide +kernel
theorem dX0_outlyingSight_62 : decode cX0_outlyingSight 62 = .ok (.getfield 99, 3) := by decide +kernel
theorem dX0_outlyingSight_65 : decode cX0_outlyingSight 65 = .ok (.iload_n 3, 1) := by decide +kernel
theorem dX0_outlyingSight_66 : decode cX0_outlyingSight 66 = .ok (.invokestatic 102, 3) := by decide +kernel
theorem dX0_outlyingSight_69 : decode cX0_outlyingSight 69 = .ok (.invokevirtual 201, 3) := by decide +kernel
theorem dX0_outlyingSight_72 : decode cX0_outlyingSight 72 = .ok (.isub, 1) := by decide +kernel
theorem dX0_outlyingSight_73 : decode cX0_outlyingSight 73 = .ok (.invokestatic 204, 3) := by decide +kernel
theorem dX0_outlyingSight_76 : decode cX0_outlyingSight 76 = .ok (.istore 4, 2) := by decide +kernel
theorem dX0_outlyingSight_78 : decode cX0_outlyingSight 78 = .ok (.iload 4, 2) := by decide +kernel
theorem dX0_outlyingSight_80 : decode cX0_outlyingSight 80 = .ok (.iload_n 2, 1) := by decide +kernel
theorem dX0_outlyingSight_81 : decode cX0_outlyingSight 81 = .ok (.if_icmp .le 8, 3) := by decide +kernel
theorem dX0_outlyingSight_84 : decode cX0_outlyingSight 84 = .ok (.iload 4, 2) := by decide +kernel
theorem dX0_outlyingSight_86 : decode cX0_outlyingSight 86 = .ok (.istore_n 2, 1) := by decide +kernel
theorem dX0_outlyingSight_87 : decode cX0_outlyingSight 87 = .ok (.iload_n 3, 1) := by decide +kernel
theorem dX0_outlyingSight_88 : decode cX0_outlyingSight 88 = .ok (.istore_n 1, 1) := by decide +kernel
theorem dX0_outlyingSight_89 : decode cX0_outlyingSight 89 = .ok (.iinc 3 1, 3) := by decide +kernel
theorem dX0_outlyingSight_92 : decode cX0_outlyingSight 92 = .ok (.goto (-86), 3) := by decide +kernel
theorem dX0_outlyingSight_95 : decode cX0_outlyingSight 95 = .ok (.iload_n 1, 1) := by decide +kernel
theorem dX0_outlyingSight_96 : decode cX0_outlyingSight 96 = .ok (.ireturn, 1) := by decide +kernel
def rmX0_outlyingSight : Room := rmk 9 0 0 214
theorem nX0_outlyingSight : nameOk yX0_outlyingSight 0 = true := by decide +kernel
def bX0_outlyingSight_0 (J : JT) : List Value → Sem
  | [.ref x0] =>
    J 1 [.ref x0, .int (-1), .int (-1), .int 0]
  | _ => no
def bX0_outlyingSight_1 (J : JT) : List Value → Sem
  | [.ref x0, .int x1, .int x2, .int x3] =>
    gR 0 1 x0 fun r1 =>
    gI 6 6 r1 fun v2 =>
    br (v2 ≤ x3)
    (rI x1)
    (gR 0 1 x0 fun r3 =>
    ob 6 r3 (cI SX6_counts [.ref r3, .int x3] fun v4 =>
    br (v4 = 0)
    (J 1 [.ref x0, .int x1, .int x2, .int (x3 + 1)])
    (gR 0 11 x0 fun r5 =>
    ob 0 x0 (cI SX0_edgeOf [.ref x0, .int x3] fun v6 =>
    cI SX10_cell [.ref r5, .int v6] fun v7 =>
    br ((3 : Int32) ≤ v7)
    (ob 0 x0 (cI SX0_sightRise [.ref x0, .int x3] fun v8 =>
    ob 0 x0 (cI SX0_edgeOf [.ref x0, .int x3] fun v9 =>
    gR 0 1 x0 fun r10 =>
    gR 6 7 r10 fun r11 =>
    cI SX10_cell [.ref r11, .int x3] fun v12 =>
    ob 0 x0 (cI SX0_riseFrom [.ref x0, .int v9, .int v12] fun v13 =>
    cI SJ9_abs_0f7a4 [.int (v8 - v13)] fun v14 =>
    br (v14 ≤ x2)
    (J 1 [.ref x0, .int x1, .int x2, .int (x3 + 1)])
    (J 1 [.ref x0, .int x3, .int v14, .int (x3 + 1)])))))
    (J 1 [.ref x0, .int x1, .int x2, .int (x3 + 1)])))))
  | _ => no
def bX0_outlyingSight (J : JT) : JT := fun L a => match L with
  | 0 => bX0_outlyingSight_0 J a
  | 1 => bX0_outlyingSight_1 J a
  | _ => no
def SX0_outlyingSight : ST := mk 5 bX0_outlyingSight
def lX0_outlyingSight (L : Nat) (a : List Value) : Nat × Nat × Nat × List (Nat × Value) × List Value := match L with
  | 0 => (0, 0, 0, lv_args 0 a, [])
  | 1 => (0, 0, 6, List.zip [0, 1, 2, 3] a, [])
  | _ => (0, 0, 0, [], [])
theorem pX0_outlyingSight_0 {Γ : CT} (hC : Ctx Γ "SpiritWall$Edges" cX0_outlyingSight 5 (some .int) rmX0_outlyingSight) (hnt : NT Γ) (J : JT) (hJ : ∀ L a, Cor Γ 5 (lX0_outlyingSight L a).1 (lX0_outlyingSight L a).2.1 (lX0_outlyingSight L a).2.2.1 (lX0_outlyingSight L a).2.2.2.1 (lX0_outlyingSight L a).2.2.2.2 (J L a)) (a : List Value) : Cor Γ 5 0 0 0 (lv_args 0 a) [] (bX0_outlyingSight_0 J a) := by
  unfold bX0_outlyingSight_0
  split
  · rename_i x0
    refine c_sub [0] rfl (loc' := [(0, .ref x0)]) ?_
    refine q_iconst hC dX0_outlyingSight_0 rfl ?_
    refine q_istore_nA hC (loc' := [(1, .int (-1)), (0, .ref x0)]) dX0_outlyingSight_1 rfl (Nat.le_of_ble_eq_true rfl) rfl ?_
    refine q_iconst hC dX0_outlyingSight_2 rfl ?_
    refine q_istore_nA hC (loc' := [(2, .int (-1)), (1, .int (-1)), (0, .ref x0)]) dX0_outlyingSight_3 rfl (Nat.le_of_ble_eq_true rfl) rfl ?_
    refine q_iconst hC dX0_outlyingSight_4 rfl ?_
    refine q_istore_nA hC (loc' := [(3, .int 0), (2, .int (-1)), (1, .int (-1)), (0, .ref x0)]) dX0_outlyingSight_5 rfl (Nat.le_of_ble_eq_true rfl) rfl ?_
    exact c_sub [3, 2, 1, 0] rfl (hJ 1 [.ref x0, .int (-1), .int (-1), .int 0])
  · exact c_no
theorem pX0_outlyingSight_1 {Γ : CT} (hC : Ctx Γ "SpiritWall$Edges" cX0_outlyingSight 5 (some .int) rmX0_outlyingSight) (hnt : NT Γ) (J : JT) (hJ : ∀ L a, Cor Γ 5 (lX0_outlyingSight L a).1 (lX0_outlyingSight L a).2.1 (lX0_outlyingSight L a).2.2.1 (lX0_outlyingSight L a).2.2.2.1 (lX0_outlyingSight L a).2.2.2.2 (J L a)) (a : List Value) : Cor Γ 5 0 0 6 (List.zip [0, 1, 2, 3] a) [] (bX0_outlyingSight_1 J a) := by
  unfold bX0_outlyingSight_1
  split
  · rename_i x0 x1 x2 x3
    refine c_sub [0, 1, 2, 3] rfl (loc' := [(0, .ref x0), (1, .int x1), (2, .int x2), (3, .int x3)]) ?_
    refine q_iload_n hC 3 dX0_outlyingSight_6 rfl rfl ?_
    refine q_aload_n hC 0 dX0_outlyingSight_7 rfl rfl ?_
    refine q_getR hC (by decide) (by decide) rfl w_100 dX0_outlyingSight_8 (fun r1 => ?_)
    refine q_getI hC (by decide) (by decide) rfl w_366 dX0_outlyingSight_11 (fun v2 => ?_)
    refine q_ic_ge hC 95 dX0_outlyingSight_14 rfl ?_ ?_
    · refine q_iload_n hC 1 dX0_outlyingSight_95 rfl rfl ?_
      exact q_iret hC dX0_outlyingSight_96 (Nat.le_of_ble_eq_true rfl) (Nat.le_of_ble_eq_true rfl)
    · refine q_aload_n hC 0 dX0_outlyingSight_17 rfl rfl ?_
      refine q_getR hC (by decide) (by decide) rfl w_100 dX0_outlyingSight_18 (fun r3 => ?_)
      refine q_iload_n hC 3 dX0_outlyingSight_21 rfl rfl ?_
      refine q_cVI hC hnt (stk := []) (as := [.int x3]) sX6_counts (ci := 6) (by decide) rfl nX6_counts rfl w_392 w_394 w_395 w_35 w_393 (Nat.le_of_ble_eq_true rfl) dX0_outlyingSight_22 rfl (fun v4 => ?_)
      refine q_if_eq hC 89 dX0_outlyingSight_25 rfl ?_ ?_
      · refine q_iincA hC (loc' := [(3, .int (x3 + 1)), (0, .ref x0), (1, .int x1), (2, .int x2)]) 3 1 dX0_outlyingSight_89 rfl rfl (Nat.le_of_ble_eq_true rfl) rfl ?_
        refine q_goto hC 6 dX0_outlyingSight_92 rfl ?_
        exact c_sub [1, 2, 3, 0] rfl (hJ 1 [.ref x0, .int x1, .int x2, .int (x3 + 1)])
      · refine q_aload_n hC 0 dX0_outlyingSight_28 rfl rfl ?_
        refine q_getR hC (by decide) (by decide) rfl w_93 dX0_outlyingSight_29 (fun r5 => ?_)
        refine q_aload_n hC 0 dX0_outlyingSight_32 rfl rfl ?_
        refine q_iload_n hC 3 dX0_outlyingSight_33 rfl rfl ?_
        refine q_cVI hC hnt (stk := [.ref r5]) (as := [.int x3]) sX0_edgeOf (ci := 0) (by decide) rfl nX0_edgeOf rfl w_410 w_412 w_413 w_149 w_411 (Nat.le_of_ble_eq_true rfl) dX0_outlyingSight_34 rfl (fun v6 => ?_)
        refine q_cNI hC hnt (stk := []) (as := [.ref r5, .int v6]) sX10_cell nX10_cell rfl w_352 w_202 w_27 w_201 (Nat.le_of_ble_eq_true rfl) dX0_outlyingSight_37 rfl (fun v7 => ?_)
        refine q_iconst hC dX0_outlyingSight_40 rfl ?_
        refine q_ic_ge hC 47 dX0_outlyingSight_41 rfl ?_ ?_
        · refine q_aload_n hC 0 dX0_outlyingSight_47 rfl rfl ?_
          refine q_iload_n hC 3 dX0_outlyingSight_48 rfl rfl ?_
          refine q_cVI hC hnt (stk := []) (as := [.int x3]) sX0_sightRise (ci := 0) (by decide) rfl nX0_sightRise rfl w_435 w_437 w_438 w_149 w_436 (Nat.le_of_ble_eq_true rfl) dX0_outlyingSight_49 rfl (fun v8 => ?_)
          refine q_aload_n hC 0 dX0_outlyingSight_52 rfl rfl ?_
          refine q_aload_n hC 0 dX0_outlyingSight_53 rfl rfl ?_
          refine q_iload_n hC 3 dX0_outlyingSight_54 rfl rfl ?_
          refine q_cVI hC hnt (stk := [.ref x0, .int v8]) (as := [.int x3]) sX0_edgeOf (ci := 0) (by decide) rfl nX0_edgeOf rfl w_410 w_412 w_413 w_149 w_411 (Nat.le_of_ble_eq_true rfl) dX0_outlyingSight_55 rfl (fun v9 => ?_)
          refine q_aload_n hC 0 dX0_outlyingSight_58 rfl rfl ?_
          refine q_getR hC (by decide) (by decide) rfl w_100 dX0_outlyingSight_59 (fun r10 => ?_)
          refine q_getR hC (by decide) (by decide) rfl w_367 dX0_outlyingSight_62 (fun r11 => ?_)
          refine q_iload_n hC 3 dX0_outlyingSight_65 rfl rfl ?_
          refine q_cNI hC hnt (stk := [.int v9, .ref x0, .int v8]) (as := [.ref r11, .int x3]) sX10_cell nX10_cell rfl w_352 w_202 w_27 w_201 (Nat.le_of_ble_eq_true rfl) dX0_outlyingSight_66 rfl (fun v12 => ?_)
          refine q_cVI hC hnt (stk := [.int v8]) (as := [.int v9, .int v12]) sX0_riseFrom (ci := 0) (by decide) rfl nX0_riseFrom rfl w_684 w_639 w_640 w_149 w_638 (Nat.le_of_ble_eq_true rfl) dX0_outlyingSight_69 rfl (fun v13 => ?_)
          refine q_isub hC dX0_outlyingSight_72 ?_
          refine q_cSI hC hnt (stk := []) (as := [.int (v8 - v13)]) sJ9_abs_0f7a4 nJ9_abs_0f7a4 rfl w_685 w_687 w_351 w_686 (Nat.le_of_ble_eq_true rfl) dX0_outlyingSight_73 rfl (fun v14 => ?_)
          refine q_istoreA hC (loc' := [(4, .int v14), (0, .ref x0), (1, .int x1), (2, .int x2), (3, .int x3)]) dX0_outlyingSight_76 (Nat.le_of_ble_eq_true rfl) rfl ?_
          refine q_iload hC 0 dX0_outlyingSight_78 rfl ?_
          refine q_iload_n hC 3 dX0_outlyingSight_80 rfl rfl ?_
          refine q_ic_le hC 89 dX0_outlyingSight_81 rfl ?_ ?_
          · refine q_iincA hC (loc' := [(3, .int (x3 + 1)), (4, .int v14), (0, .ref x0), (1, .int x1), (2, .int x2)]) 4 1 dX0_outlyingSight_89 rfl rfl (Nat.le_of_ble_eq_true rfl) rfl ?_
            refine q_goto hC 6 dX0_outlyingSight_92 rfl ?_
            exact c_sub [2, 3, 4, 0] rfl (hJ 1 [.ref x0, .int x1, .int x2, .int (x3 + 1)])
          · refine q_iload hC 0 dX0_outlyingSight_84 rfl ?_
            refine q_istore_nA hC (loc' := [(2, .int v14), (4, .int v14), (0, .ref x0), (1, .int x1), (3, .int x3)]) dX0_outlyingSight_86 rfl (Nat.le_of_ble_eq_true rfl) rfl ?_
            refine q_iload_n hC 4 dX0_outlyingSight_87 rfl rfl ?_
            refine q_istore_nA hC (loc' := [(1, .int x3), (2, .int v14), (4, .int v14), (0, .ref x0), (3, .int x3)]) dX0_outlyingSight_88 rfl (Nat.le_of_ble_eq_true rfl) rfl ?_
            refine q_iincA hC (loc' := [(3, .int (x3 + 1)), (1, .int x3), (2, .int v14), (4, .int v14), (0, .ref x0)]) 4 1 dX0_outlyingSight_89 rfl rfl (Nat.le_of_ble_eq_true rfl) rfl ?_
            refine q_goto hC 6 dX0_outlyingSight_92 rfl ?_
            exact c_sub [4, 1, 2, 0] rfl (hJ 1 [.ref x0, .int x3, .int v14, .int (x3 + 1)])
        · refine q_goto hC 89 dX0_outlyingSight_44 rfl ?_
          refine q_iincA hC (loc' := [(3, .int (x3 + 1)), (0, .ref x0), (1, .int x1), (2, .int x2)]) 3 1 dX0_outlyingSight_89 rfl rfl (Nat.le_of_ble_eq_true rfl) rfl ?_
          refine q_goto hC 6 dX0_outlyingSight_92 rfl ?_
          exact c_sub [1, 2, 3, 0] rfl (hJ 1 [.ref x0, .int x1, .int x2, .int (x3 + 1)])
  · exact c_no
theorem sX0_outlyingSight : Snd yX0_outlyingSight (.code yX0_outlyingSight cX0_outlyingSight 5 (some .int)) rmX0_outlyingSight SX0_outlyingSight := by
  refine Snd.of lX0_outlyingSight (by decide +kernel) (fun _ => rfl) ?_
  intro Γ hC hnt hnm J hJ L a
  match L with
  | 0 => exact pX0_outlyingSight_0 hC hnt J hJ a
  | 1 => exact pX0_outlyingSight_1 hC hnt J hJ a
  | L + 2 => exact c_no
/-! SpiritWall.outlier()I -/
theorem dX10_outlier_0 : decode cX10_outlier 0 = .ok (.aload_n 0, 1) := by decide +kernel
theorem dX10_outlier_1 : decode cX10_outlier 1 = .ok (.getfield 62, 3) := by decide +kernel
theorem dX10_outlier_4 : decode cX10_outlier 4 = .ok (.aload_n 0, 1) := by decide +kernel
theorem dX10_outlier_5 : decode cX10_outlier 5 = .ok (.getfield 31, 3) := by decide +kernel
theorem dX10_outlier_8 : decode cX10_outlier 8 = .ok (.invokevirtual 164, 3) := by decide +kernel
theorem dX10_outlier_11 : decode cX10_outlier 11 = .ok (.aload_n 0, 1) := by decide +kernel
theorem dX10_outlier_12 : decode cX10_outlier 12 = .ok (.getfield 62, 3) := by decide +kernel
theorem dX10_outlier_15 : decode cX10_outlier 15 = .ok (.invokevirtual 326, 3) := by decide +kernel
theorem dX10_outlier_18 : decode cX10_outlier 18 = .ok (.ireturn, 1) := by decide +kernel
def rmX10_outlier : Room := rmk 12 0 0 290
theorem nX10_outlier : nameOk yX10_outlier 0 = true := by decide +kernel
def bX10_outlier_0 (J : JT) : List Value → Sem
  | [.ref x0] =>
    gR 10 8 x0 fun r1 =>
    gR 10 3 x0 fun r2 =>
    ob 0 r1 (cV SX0_measure [.ref r1, .ref r2] <|
    gR 10 8 x0 fun r3 =>
    ob 0 r3 (cI SX0_outlyingSight [.ref r3] fun v4 =>
    rI v4))
  | _ => no
def bX10_outlier (J : JT) : JT := fun L a => match L with
  | 0 => bX10_outlier_0 J a
  | _ => no
def SX10_outlier : ST := mk 1 bX10_outlier
def lX10_outlier (L : Nat) (a : List Value) : Nat × Nat × Nat × List (Nat × Value) × List Value := match L with
  | 0 => (0, 0, 0, lv_args 0 a, [])
  | _ => (0, 0, 0, [], [])
theorem pX10_outlier_0 {Γ : CT} (hC : Ctx Γ "SpiritWall" cX10_outlier 1 (some .int) rmX10_outlier) (hnt : NT Γ) (J : JT) (hJ : ∀ L a, Cor Γ 1 (lX10_outlier L a).1 (lX10_outlier L a).2.1 (lX10_outlier L a).2.2.1 (lX10_outlier L a).2.2.2.1 (lX10_outlier L a).2.2.2.2 (J L a)) (a : List Value) : Cor Γ 1 0 0 0 (lv_args 0 a) [] (bX10_outlier_0 J a) := by
  unfold bX10_outlier_0
  split
  · rename_i x0
    refine c_sub [0] rfl (loc' := [(0, .ref x0)]) ?_
    refine q_aload_n hC 0 dX10_outlier_0 rfl rfl ?_
    refine q_getR hC (by decide) (by decide) rfl w_150 dX10_outlier_1 (fun r1 => ?_)
    refine q_aload_n hC 0 dX10_outlier_4 rfl rfl ?_
    refine q_getR hC (by decide) (by decide) rfl w_133 dX10_outlier_5 (fun r2 => ?_)
    refine q_cVV hC hnt (stk := []) (as := [.ref r2]) sX0_measure (ci := 0) (by decide) rfl nX0_measure rfl w_536 w_538 w_539 w_149 w_537 (Nat.le_of_ble_eq_true rfl) dX10_outlier_8 rfl ?_
    refine q_aload_n hC 0 dX10_outlier_11 rfl rfl ?_
    refine q_getR hC (by decide) (by decide) rfl w_150 dX10_outlier_12 (fun r3 => ?_)
    refine q_cVI hC hnt (stk := []) (as := []) sX0_outlyingSight (ci := 0) (by decide) rfl nX0_outlyingSight rfl w_688 w_690 w_691 w_149 w_689 (Nat.le_of_ble_eq_true rfl) dX10_outlier_15 rfl (fun v4 => ?_)
    exact q_iret hC dX10_outlier_18 (Nat.le_of_ble_eq_true rfl) (Nat.le_of_ble_eq_true rfl)
  · exact c_no
theorem sX10_outlier : Snd yX10_outlier (.code yX10_outlier cX10_outlier 1 (some .int)) rmX10_outlier SX10_outlier := by
  refine Snd.of lX10_outlier (by decide +kernel) (fun _ => rfl) ?_
  intro Γ hC hnt hnm J hJ L a
  match L with
  | 0 => exact pX10_outlier_0 hC hnt J hJ a
  | L + 1 => exact c_no
/-! SpiritWall$Heights.told(LSpiritWall$State;II)I -/
theorem dX2_told_0 : decode cX2_told 0 = .ok (.aload_n 1, 1) := by decide +kernel
theorem dX2_told_1 : decode cX2_told 1 = .ok (.iload_n 3, 1) := by decide +kernel
theorem dX2_told_2 : decode cX2_told 2 = .ok (.invokevirtual 78, 3) := by decide +kernel
theorem dX2_told_5 : decode cX2_told 5 = .ok (.aload_n 0, 1) := by decide +kernel
theorem dX2_told_6 : decode cX2_told 6 = .ok (.getfield 15, 3) := by decide +kernel
theorem dX2_told_9 : decode cX2_told 9 = .ok (.iload_n 2, 1) := by decide +kernel
theorem dX2_told_10 : decode cX2_told 10 = .ok (.iload_n 3, 1) := by decide +kernel
theorem dX2_told_11 : decode cX2_told 11 = .ok (.invokevirtual 82, 3) := by decide +kernel
theorem dX2_told_14 : decode cX2_told 14 = .ok (.iadd, 1) := by decide +kernel
theorem dX2_told_15 : decode cX2_told 15 = .ok (.ireturn, 1) := by decide +kernel
def rmX2_told : Room := rmk 9 0 0 213
theorem nX2_told : nameOk yX2_told 3 = true := by decide +kernel
def bX2_told_0 (J : JT) : List Value → Sem
  | [.ref x0, .ref x1, .int x2, .int x3] =>
    ob 6 x1 (cI SX6_heightOf [.ref x1, .int x3] fun v1 =>
    gR 2 0 x0 fun r2 =>
    ob 0 r2 (cI SX0_riseFrom [.ref r2, .int x2, .int x3] fun v3 =>
    rI (v1 + v3)))
  | _ => no
def bX2_told (J : JT) : JT := fun L a => match L with
  | 0 => bX2_told_0 J a
  | _ => no
def SX2_told : ST := mk 4 bX2_told
def lX2_told (L : Nat) (a : List Value) : Nat × Nat × Nat × List (Nat × Value) × List Value := match L with
  | 0 => (0, 0, 0, lv_args 0 a, [])
  | _ => (0, 0, 0, [], [])
theorem pX2_told_0 {Γ : CT} (hC : Ctx Γ "SpiritWall$Heights" cX2_told 4 (some .int) rmX2_told) (hnt : NT Γ) (J : JT) (hJ : ∀ L a, Cor Γ 4 (lX2_told L a).1 (lX2_told L a).2.1 (lX2_told L a).2.2.1 (lX2_told L a).2.2.2.1 (lX2_told L a).2.2.2.2 (J L a)) (a : List Value) : Cor Γ 4 0 0 0 (lv_args 0 a) [] (bX2_told_0 J a) := by
  unfold bX2_told_0
  split
  · rename_i x0 x1 x2 x3
    refine c_sub [0, 1, 2, 3] rfl (loc' := [(0, .ref x0), (1, .ref x1), (2, .int x2), (3, .int x3)]) ?_
    refine q_aload_n hC 1 dX2_told_0 rfl rfl ?_
    refine q_iload_n hC 3 dX2_told_1 rfl rfl ?_
    refine q_cVI hC hnt (stk := []) (as := [.int x3]) sX6_heightOf (ci := 6) (by decide) rfl nX6_heightOf rfl w_692 w_612 w_613 w_35 w_611 (Nat.le_of_ble_eq_true rfl) dX2_told_2 rfl (fun v1 => ?_)
    refine q_aload_n hC 0 dX2_told_5 rfl rfl ?_
    refine q_getR hC (by decide) (by decide) rfl w_122 dX2_told_6 (fun r2 => ?_)
    refine q_iload_n hC 2 dX2_told_9 rfl rfl ?_
    refine q_iload_n hC 3 dX2_told_10 rfl rfl ?_
    refine q_cVI hC hnt (stk := [.int v1]) (as := [.int x2, .int x3]) sX0_riseFrom (ci := 0) (by decide) rfl nX0_riseFrom rfl w_693 w_639 w_640 w_149 w_638 (Nat.le_of_ble_eq_true rfl) dX2_told_11 rfl (fun v3 => ?_)
    refine q_iadd hC dX2_told_14 ?_
    exact q_iret hC dX2_told_15 (Nat.le_of_ble_eq_true rfl) (Nat.le_of_ble_eq_true rfl)
  · exact c_no
theorem sX2_told : Snd yX2_told (.code yX2_told cX2_told 4 (some .int)) rmX2_told SX2_told := by
  refine Snd.of lX2_told (by decide +kernel) (fun _ => rfl) ?_
  intro Γ hC hnt hnm J hJ L a
  match L with
  | 0 => exact pX2_told_0 hC hnt J hJ a
  | L + 1 => exact c_no
/-! SpiritWall$Heights.misfitOf(LSpiritWall$State;)J -/
theorem dX2_misfitOf_0 : decode cX2_misfitOf 0 = .ok (.lconst 0, 1) := by decide +kernel
theorem dX2_misfitOf_1 : decode cX2_misfitOf 1 = .ok (.lstore_n 2, 1) := by decide +kernel
theorem dX2_misfitOf_2 : decode cX2_misfitOf 2 = .ok (.iconst 0, 1) := by decide +kernel
theorem dX2_misfitOf_3 : decode cX2_misfitOf 3 = .ok (.istore 4, 2) := by decide +kernel
theorem dX2_misfitOf_5 : decode cX2_misfitOf 5 = .ok (.iload 4, 2) := by decide +kernel
theorem dX2_misfitOf_7 : decode cX2_misfitOf 7 = .ok (.aload_n 0, 1) := by decide +kernel
theorem dX2_misfitOf_8 : decode cX2_misfitOf 8 = .ok (.getfield 15, 3) := by decide +kernel
theorem dX2_misfitOf_11 : decode cX2_misfitOf 11 = .ok (.getfield 96, 3) := by decide +kernel
theorem dX2_misfitOf_14 : decode cX2_misfitOf 14 = .ok (.if_icmp .ge 86, 3) := by decide +kernel
theorem dX2_misfitOf_17 : decode cX2_misfitOf 17 = .ok (.aload_n 0, 1) := by decide +kernel
theorem dX2_misfitOf_18 : decode cX2_misfitOf 18 = .ok (.getfield 15, 3) := by decide +kernel
theorem dX2_misfitOf_21 : decode cX2_misfitOf 21 = .ok (.getfield 109, 3) := by decide +kernel
theorem dX2_misfitOf_24 : decode cX2_misfitOf 24 = .ok (.iload 4, 2) := by decide +kernel
theorem dX2_misfitOf_26 : decode cX2_misfitOf 26 = .ok (.invokestatic 59, 3) := by decide +kernel
theorem dX2_misfitOf_29 : decode cX2_misfitOf 29 = .ok (.istore 5, 2) := by decide +kernel
theorem dX2_misfitOf_31 : decode cX2_misfitOf 31 = .ok (.aload_n 0, 1) := by decide +kernel
theorem dX2_misfitOf_32 : decode cX2_misfitOf 32 = .ok (.getfield 15, 3) := by decide +kernel
theorem dX2_misfitOf_35 : decode cX2_misfitOf 35 = .ok (.getfield 112, 3) := by decide +kernel
theorem dX2_misfitOf_38 : decode cX2_misfitOf 38 = .ok (.iload 4, 2) := by decide +kernel
theorem dX2_misfitOf_40 : decode cX2_misfitOf 40 = .ok (.invokestatic 59, 3) := by decide +kernel
theorem dX2_misfitOf_43 : decode cX2_misfitOf 43 = .ok (.istore 6, 2) := by decide +kernel
theorem dX2_misfitOf_45 : decode cX2_misfitOf 45 = .ok (.aload_n 1, 1) := by decide +kernel
theorem dX2_misfitOf_46 : decode cX2_misfitOf 46 = .ok (.iload 5, 2) := by decide +kernel
theorem dX2_misfitOf_48 : decode cX2_misfitOf 48 = .ok (.invokevirtual 51, 3) := by decide +kernel
theorem dX2_misfitOf_51 : decode cX2_misfitOf 51 = .ok (.ifCond .eq 43, 3) := by decide +kernel
theorem dX2_misfitOf_54 : decode cX2_misfitOf 54 = .ok (.aload_n 1, 1) := by decide +kernel
theorem dX2_misfitOf_55 : decode cX2_misfitOf 55 = .ok (.iload 6, 2) := by decide +kernel
theorem dX2_misfitOf_57 : decode cX2_misfitOf 57 = .ok (.invokevirtual 51, 3) := by decide +kernel
theorem dX2_misfitOf_60 : decode cX2_misfitOf 60 = .ok (.ifCond .ne 6, 3) := by decide +kernel
theorem dX2_misfitOf_63 : decode cX2_misfitOf 63 = .ok (.goto 31, 3) := by decide +kernel
theorem dX2_misfitOf_66 : decode cX2_misfitOf 66 = .ok (.aload_n 0, 1) := by decide +kernel
theorem dX2_misfitOf_67 : decode cX2_misfitOf 67 = .ok (.aload_n 1, 1) := by decide +kernel
theorem dX2_misfitOf_68 : decode cX2_misfitOf 68 = .ok (.iload 4, 2) := by decide +kernel
theorem dX2_misfitOf_70 : decode cX2_misfitOf 70 = .ok (.iload 5, 2) := by decide +kernel
theorem dX2_misfitOf_72 : decode cX2_misfitOf 72 = .ok (.invokevirtual 70, 3) := by decide +kernel
theorem dX2_misfitOf_75 : decode cX2_misfitOf 75 = .ok (.i2l, 1) := by decide +kernel
theorem dX2_misfitOf_76 : decode cX2_misfitOf 76 = .ok (.aload_n 1, 1) := by decide +kernel
theorem dX2_misfitOf_77 : decode cX2_misfitOf 77 = .ok (.iload 6, 2) := by decide +kernel
theorem dX2_misfitOf_79 : decode cX2_misfitOf 79 = .ok (.invokevirtual 78, 3) := by decide +kernel
theorem dX2_misfitOf_82 : decode cX2_misfitOf 82 = .ok (.i2l, 1) := by decide +kernel
theorem dX2_misfitOf_83 : decode cX2_misfitOf 83 = .ok (.lsub, 1) := by decide +kernel
theorem dX2_misfitOf_84 : decode cX2_misfitOf 84 = .ok (.lstore 7, 2) := by decide +kernel
theorem dX2_misfitOf_86 : decode cX2_misfitOf 86 = .ok (.lload_n 2, 1) := by decide +kernel
theorem dX2_misfitOf_87 : decode cX2_misfitOf 87 = .ok (.lload 7, 2) := by decide +kernel
theorem dX2_misfitOf_89 : decode cX2_misfitOf 89 = .ok (.lload 7, 2) := by decide +kernel
theorem dX2_misfitOf_91 : decode cX2_misfitOf 91 = .ok (.lmul, 1) := by decide +kernel
theorem dX2_misfitOf_92 : decode cX2_misfitOf 92 = .ok (.ladd, 1) := by decide +kernel
theorem dX2_misfitOf_93 : decode cX2_misfitOf 93 = .ok (.lstore_n 2, 1) := by decide +kernel
theorem dX2_misfitOf_94 : decode cX2_misfitOf 94 = .ok (.iinc 4 1, 3) := by decide +kernel
theorem dX2_misfitOf_97 : decode cX2_misfitOf 97 = .ok (.goto (-92), 3) := by decide +kernel
theorem dX2_misfitOf_100 : decode cX2_misfitOf 100 = .ok (.lload_n 2, 1) := by decide +kernel
theorem dX2_misfitOf_101 : decode cX2_misfitOf 101 = .ok (.lreturn, 1) := by decide +kernel
def rmX2_misfitOf : Room := rmk 10 0 0 236
theorem nX2_misfitOf : nameOk yX2_misfitOf 1 = true := by decide +kernel
def bX2_misfitOf_0 (J : JT) : List Value → Sem
  | [.ref x0, .ref x1] =>
    J 1 [.ref x0, .ref x1, .long 0, .int 0]
  | _ => no
def bX2_misfitOf_1 (J : JT) : List Value → Sem
  | [.ref x0, .ref x1, .long x2, .int x4] =>
    gR 2 0 x0 fun r1 =>
    gI 0 3 r1 fun v2 =>
    br (v2 ≤ x4)
    (rJ x2)
    (gR 2 0 x0 fun r3 =>
    gR 0 8 r3 fun r4 =>
    cI SX10_cell [.ref r4, .int x4] fun v5 =>
    gR 2 0 x0 fun r6 =>
    gR 0 9 r6 fun r7 =>
    cI SX10_cell [.ref r7, .int x4] fun v8 =>
    ob 6 x1 (cI SX6_hasHeight [.ref x1, .int v5] fun v9 =>
    br (v9 = 0)
    (J 1 [.ref x0, .ref x1, .long x2, .int (x4 + 1)])
    (ob 6 x1 (cI SX6_hasHeight [.ref x1, .int v8] fun v10 =>
    br (v10 = 0)
    (J 1 [.ref x0, .ref x1, .long x2, .int (x4 + 1)])
    (ob 2 x0 (cI SX2_told [.ref x0, .ref x1, .int x4, .int v5] fun v11 =>
    ob 6 x1 (cI SX6_heightOf [.ref x1, .int v8] fun v12 =>
    lJ ((v11.toInt64) - (v12.toInt64)) fun y7_13 =>
    lJ (x2 + (y7_13 * y7_13)) fun y2_14 =>
    J 1 [.ref x0, .ref x1, .long y2_14, .int (x4 + 1)])))))))
  | _ => no
def bX2_misfitOf (J : JT) : JT := fun L a => match L with
  | 0 => bX2_misfitOf_0 J a
  | 1 => bX2_misfitOf_1 J a
  | _ => no
def SX2_misfitOf : ST := mk 9 bX2_misfitOf
def lX2_misfitOf (L : Nat) (a : List Value) : Nat × Nat × Nat × List (Nat × Value) × List Value := match L with
  | 0 => (0, 0, 0, lv_args 0 a, [])
  | 1 => (0, 0, 5, List.zip [0, 1, 2, 4] a, [])
  | _ => (0, 0, 0, [], [])
theorem pX2_misfitOf_0 {Γ : CT} (hC : Ctx Γ "SpiritWall$Heights" cX2_misfitOf 9 (some .long) rmX2_misfitOf) (hnt : NT Γ) (J : JT) (hJ : ∀ L a, Cor Γ 9 (lX2_misfitOf L a).1 (lX2_misfitOf L a).2.1 (lX2_misfitOf L a).2.2.1 (lX2_misfitOf L a).2.2.2.1 (lX2_misfitOf L a).2.2.2.2 (J L a)) (a : List Value) : Cor Γ 9 0 0 0 (lv_args 0 a) [] (bX2_misfitOf_0 J a) := by
  unfold bX2_misfitOf_0
  split
  · rename_i x0 x1
    refine c_sub [0, 1] rfl (loc' := [(0, .ref x0), (1, .ref x1)]) ?_
    refine q_lconst hC (v := 0) dX2_misfitOf_0 rfl ?_
    refine q_lstore_nA hC (loc' := [(2, .long 0), (0, .ref x0), (1, .ref x1)]) dX2_misfitOf_1 rfl (Nat.le_of_ble_eq_true rfl) rfl ?_
    refine q_iconst hC dX2_misfitOf_2 rfl ?_
    refine q_istoreA hC (loc' := [(4, .int 0), (2, .long 0), (0, .ref x0), (1, .ref x1)]) dX2_misfitOf_3 (Nat.le_of_ble_eq_true rfl) rfl ?_
    exact c_sub [2, 3, 1, 0] rfl (hJ 1 [.ref x0, .ref x1, .long 0, .int 0])
  · exact c_no
theorem pX2_misfitOf_1 {Γ : CT} (hC : Ctx Γ "SpiritWall$Heights" cX2_misfitOf 9 (some .long) rmX2_misfitOf) (hnt : NT Γ) (J : JT) (hJ : ∀ L a, Cor Γ 9 (lX2_misfitOf L a).1 (lX2_misfitOf L a).2.1 (lX2_misfitOf L a).2.2.1 (lX2_misfitOf L a).2.2.2.1 (lX2_misfitOf L a).2.2.2.2 (J L a)) (a : List Value) : Cor Γ 9 0 0 5 (List.zip [0, 1, 2, 4] a) [] (bX2_misfitOf_1 J a) := by
  unfold bX2_misfitOf_1
  split
  · rename_i x0 x1 x2 x4
    refine c_sub [0, 1, 2, 3] rfl (loc' := [(0, .ref x0), (1, .ref x1), (2, .long x2), (4, .int x4)]) ?_
    refine q_iload hC 3 dX2_misfitOf_5 rfl ?_
    refine q_aload_n hC 0 dX2_misfitOf_7 rfl rfl ?_
    refine q_getR hC (by decide) (by decide) rfl w_122 dX2_misfitOf_8 (fun r1 => ?_)
    refine q_getI hC (by decide) (by decide) rfl w_694 dX2_misfitOf_11 (fun v2 => ?_)
    refine q_ic_ge hC 100 dX2_misfitOf_14 rfl ?_ ?_
    · refine q_lload_n hC 2 dX2_misfitOf_100 rfl rfl ?_
      exact q_lret hC dX2_misfitOf_101 (Nat.le_of_ble_eq_true rfl) (Nat.le_of_ble_eq_true rfl)
    · refine q_aload_n hC 0 dX2_misfitOf_17 rfl rfl ?_
      refine q_getR hC (by decide) (by decide) rfl w_122 dX2_misfitOf_18 (fun r3 => ?_)
      refine q_getR hC (by decide) (by decide) rfl w_695 dX2_misfitOf_21 (fun r4 => ?_)
      refine q_iload hC 3 dX2_misfitOf_24 rfl ?_
      refine q_cNI hC hnt (stk := []) (as := [.ref r4, .int x4]) sX10_cell nX10_cell rfl w_696 w_202 w_27 w_201 (Nat.le_of_ble_eq_true rfl) dX2_misfitOf_26 rfl (fun v5 => ?_)
      refine q_istoreA hC (loc' := [(5, .int v5), (0, .ref x0), (1, .ref x1), (2, .long x2), (4, .int x4)]) dX2_misfitOf_29 (Nat.le_of_ble_eq_true rfl) rfl ?_
      refine q_aload_n hC 1 dX2_misfitOf_31 rfl rfl ?_
      refine q_getR hC (by decide) (by decide) rfl w_122 dX2_misfitOf_32 (fun r6 => ?_)
      refine q_getR hC (by decide) (by decide) rfl w_697 dX2_misfitOf_35 (fun r7 => ?_)
      refine q_iload hC 4 dX2_misfitOf_38 rfl ?_
      refine q_cNI hC hnt (stk := []) (as := [.ref r7, .int x4]) sX10_cell nX10_cell rfl w_696 w_202 w_27 w_201 (Nat.le_of_ble_eq_true rfl) dX2_misfitOf_40 rfl (fun v8 => ?_)
      refine q_istoreA hC (loc' := [(6, .int v8), (5, .int v5), (0, .ref x0), (1, .ref x1), (2, .long x2), (4, .int x4)]) dX2_misfitOf_43 (Nat.le_of_ble_eq_true rfl) rfl ?_
      refine q_aload_n hC 3 dX2_misfitOf_45 rfl rfl ?_
      refine q_iload hC 1 dX2_misfitOf_46 rfl ?_
      refine q_cVI hC hnt (stk := []) (as := [.int v5]) sX6_hasHeight (ci := 6) (by decide) rfl nX6_hasHeight rfl w_698 w_607 w_608 w_35 w_606 (Nat.le_of_ble_eq_true rfl) dX2_misfitOf_48 rfl (fun v9 => ?_)
      refine q_if_eq hC 94 dX2_misfitOf_51 rfl ?_ ?_
      · refine q_iincA hC (loc' := [(4, .int (x4 + 1)), (6, .int v8), (5, .int v5), (0, .ref x0), (1, .ref x1), (2, .long x2)]) 5 1 dX2_misfitOf_94 rfl rfl (Nat.le_of_ble_eq_true rfl) rfl ?_
        refine q_goto hC 5 dX2_misfitOf_97 rfl ?_
        exact c_sub [3, 4, 5, 0] rfl (hJ 1 [.ref x0, .ref x1, .long x2, .int (x4 + 1)])
      · refine q_aload_n hC 3 dX2_misfitOf_54 rfl rfl ?_
        refine q_iload hC 0 dX2_misfitOf_55 rfl ?_
        refine q_cVI hC hnt (stk := []) (as := [.int v8]) sX6_hasHeight (ci := 6) (by decide) rfl nX6_hasHeight rfl w_698 w_607 w_608 w_35 w_606 (Nat.le_of_ble_eq_true rfl) dX2_misfitOf_57 rfl (fun v10 => ?_)
        refine q_if_ne hC 66 dX2_misfitOf_60 rfl ?_ ?_
        · refine q_aload_n hC 2 dX2_misfitOf_66 rfl rfl ?_
          refine q_aload_n hC 3 dX2_misfitOf_67 rfl rfl ?_
          refine q_iload hC 5 dX2_misfitOf_68 rfl ?_
          refine q_iload hC 1 dX2_misfitOf_70 rfl ?_
          refine q_cVI hC hnt (stk := []) (as := [.ref x1, .int x4, .int v5]) sX2_told (ci := 2) (by decide) rfl nX2_told rfl w_699 w_701 w_702 w_164 w_700 (Nat.le_of_ble_eq_true rfl) dX2_misfitOf_72 rfl (fun v11 => ?_)
          refine q_i2l hC dX2_misfitOf_75 ?_
          refine q_aload_n hC 3 dX2_misfitOf_76 rfl rfl ?_
          refine q_iload hC 0 dX2_misfitOf_77 rfl ?_
          refine q_cVI hC hnt (stk := [.long (v11.toInt64)]) (as := [.int v8]) sX6_heightOf (ci := 6) (by decide) rfl nX6_heightOf rfl w_692 w_612 w_613 w_35 w_611 (Nat.le_of_ble_eq_true rfl) dX2_misfitOf_79 rfl (fun v12 => ?_)
          refine q_i2l hC dX2_misfitOf_82 ?_
          refine q_lsub hC dX2_misfitOf_83 ?_
          refine q_lstore hC (fun y7_13 => [(7, .long y7_13), (6, .int v8), (5, .int v5), (0, .ref x0), (1, .ref x1), (2, .long x2), (4, .int x4)]) dX2_misfitOf_84 (Nat.le_of_ble_eq_true rfl) (fun _ => rfl) (fun y7_13 => ?_)
          refine q_lload_n hC 5 dX2_misfitOf_86 rfl rfl ?_
          refine q_lload hC 0 dX2_misfitOf_87 rfl ?_
          refine q_lload hC 0 dX2_misfitOf_89 rfl ?_
          refine q_lmul hC dX2_misfitOf_91 ?_
          refine q_ladd hC dX2_misfitOf_92 ?_
          refine q_lstore_n hC (fun y2_14 => [(2, .long y2_14), (7, .long y7_13), (6, .int v8), (5, .int v5), (0, .ref x0), (1, .ref x1), (4, .int x4)]) dX2_misfitOf_93 rfl (Nat.le_of_ble_eq_true rfl) (fun _ => rfl) (fun y2_14 => ?_)
          refine q_iincA hC (loc' := [(4, .int (x4 + 1)), (2, .long y2_14), (7, .long y7_13), (6, .int v8), (5, .int v5), (0, .ref x0), (1, .ref x1)]) 6 1 dX2_misfitOf_94 rfl rfl (Nat.le_of_ble_eq_true rfl) rfl ?_
          refine q_goto hC 5 dX2_misfitOf_97 rfl ?_
          exact c_sub [5, 6, 1, 0] rfl (hJ 1 [.ref x0, .ref x1, .long y2_14, .int (x4 + 1)])
        · refine q_goto hC 94 dX2_misfitOf_63 rfl ?_
          refine q_iincA hC (loc' := [(4, .int (x4 + 1)), (6, .int v8), (5, .int v5), (0, .ref x0), (1, .ref x1), (2, .long x2)]) 5 1 dX2_misfitOf_94 rfl rfl (Nat.le_of_ble_eq_true rfl) rfl ?_
          refine q_goto hC 5 dX2_misfitOf_97 rfl ?_
          exact c_sub [3, 4, 5, 0] rfl (hJ 1 [.ref x0, .ref x1, .long x2, .int (x4 + 1)])
  · exact c_no
theorem sX2_misfitOf : Snd yX2_misfitOf (.code yX2_misfitOf cX2_misfitOf 9 (some .long)) rmX2_misfitOf SX2_misfitOf := by
  refine Snd.of lX2_misfitOf (by decide +kernel) (fun _ => rfl) ?_
  intro Γ hC hnt hnm J hJ L a
  match L with
  | 0 => exact pX2_misfitOf_0 hC hnt J hJ a
  | 1 => exact pX2_misfitOf_1 hC hnt J hJ a
  | L + 2 => exact c_no
/-! SpiritWall.misfit()J -/
theorem dX10_misfit_0 : decode cX10_misfit 0 = .ok (.aload_n 0, 1) := by decide +kernel
theorem dX10_misfit_1 : decode cX10_misfit 1 = .ok (.getfield 62, 3) := by decide +kernel
theorem dX10_misfit_4 : decode cX10_misfit 4 = .ok (.aload_n 0, 1) := by decide +kernel
theorem dX10_misfit_5 : decode cX10_misfit 5 = .ok (.getfield 31, 3) := by decide +kernel
theorem dX10_misfit_8 : decode cX10_misfit 8 = .ok (.invokevirtual 164, 3) := by decide +kernel
theorem dX10_misfit_11 : decode cX10_misfit 11 = .ok (.aload_n 0, 1) := by decide +kernel
theorem dX10_misfit_12 : decode cX10_misfit 12 = .ok (.getfield 87, 3) := by decide +kernel
theorem dX10_misfit_15 : decode cX10_misfit 15 = .ok (.aload_n 0, 1) := by decide +kernel
theorem dX10_misfit_16 : decode cX10_misfit 16 = .ok (.getfield 31, 3) := by decide +kernel
theorem dX10_misfit_19 : decode cX10_misfit 19 = .ok (.invokevirtual 329, 3) := by decide +kernel
theorem dX10_misfit_22 : decode cX10_misfit 22 = .ok (.lreturn, 1) := by decide +kernel
def rmX10_misfit : Room := rmk 12 0 0 290
theorem nX10_misfit : nameOk yX10_misfit 0 = true := by decide +kernel
def bX10_misfit_0 (J : JT) : List Value → Sem
  | [.ref x0] =>
    gR 10 8 x0 fun r1 =>
    gR 10 3 x0 fun r2 =>
    ob 0 r1 (cV SX0_measure [.ref r1, .ref r2] <|
    gR 10 11 x0 fun r3 =>
    gR 10 3 x0 fun r4 =>
    ob 2 r3 (cJ SX2_misfitOf [.ref r3, .ref r4] fun v5 =>
    rJ v5))
  | _ => no
def bX10_misfit (J : JT) : JT := fun L a => match L with
  | 0 => bX10_misfit_0 J a
  | _ => no
def SX10_misfit : ST := mk 1 bX10_misfit
def lX10_misfit (L : Nat) (a : List Value) : Nat × Nat × Nat × List (Nat × Value) × List Value := match L with
  | 0 => (0, 0, 0, lv_args 0 a, [])
  | _ => (0, 0, 0, [], [])
theorem pX10_misfit_0 {Γ : CT} (hC : Ctx Γ "SpiritWall" cX10_misfit 1 (some .long) rmX10_misfit) (hnt : NT Γ) (J : JT) (hJ : ∀ L a, Cor Γ 1 (lX10_misfit L a).1 (lX10_misfit L a).2.1 (lX10_misfit L a).2.2.1 (lX10_misfit L a).2.2.2.1 (lX10_misfit L a).2.2.2.2 (J L a)) (a : List Value) : Cor Γ 1 0 0 0 (lv_args 0 a) [] (bX10_misfit_0 J a) := by
  unfold bX10_misfit_0
  split
  · rename_i x0
    refine c_sub [0] rfl (loc' := [(0, .ref x0)]) ?_
    refine q_aload_n hC 0 dX10_misfit_0 rfl rfl ?_
    refine q_getR hC (by decide) (by decide) rfl w_150 dX10_misfit_1 (fun r1 => ?_)
    refine q_aload_n hC 0 dX10_misfit_4 rfl rfl ?_
    refine q_getR hC (by decide) (by decide) rfl w_133 dX10_misfit_5 (fun r2 => ?_)
    refine q_cVV hC hnt (stk := []) (as := [.ref r2]) sX0_measure (ci := 0) (by decide) rfl nX0_measure rfl w_536 w_538 w_539 w_149 w_537 (Nat.le_of_ble_eq_true rfl) dX10_misfit_8 rfl ?_
    refine q_aload_n hC 0 dX10_misfit_11 rfl rfl ?_
    refine q_getR hC (by decide) (by decide) rfl w_165 dX10_misfit_12 (fun r3 => ?_)
    refine q_aload_n hC 0 dX10_misfit_15 rfl rfl ?_
    refine q_getR hC (by decide) (by decide) rfl w_133 dX10_misfit_16 (fun r4 => ?_)
    refine q_cVJ hC hnt (stk := []) (as := [.ref r4]) sX2_misfitOf (ci := 2) (by decide) rfl nX2_misfitOf rfl w_703 w_705 w_706 w_164 w_704 (Nat.le_of_ble_eq_true rfl) dX10_misfit_19 rfl (fun v5 => ?_)
    exact q_lret hC dX10_misfit_22 (Nat.le_of_ble_eq_true rfl) (Nat.le_of_ble_eq_true rfl)
  · exact c_no
theorem sX10_misfit : Snd yX10_misfit (.code yX10_misfit cX10_misfit 1 (some .long)) rmX10_misfit SX10_misfit := by
  refine Snd.of lX10_misfit (by decide +kernel) (fun _ => rfl) ?_
  intro Γ hC hnt hnm J hJ L a
  match L with
  | 0 => exact pX10_misfit_0 hC hnt J hJ a
  | L + 1 => exact c_no
/-! SpiritWall$Heights.tensionAt(LSpiritWall$State;I)I -/
theorem dX2_tensionAt_0 : decode cX2_tensionAt 0 = .ok (.aload_n 1, 1) := by decide +kernel
theorem dX2_tensionAt_1 : decode cX2_tensionAt 1 = .ok (.iload_n 2, 1) := by decide +kernel
theorem dX2_tensionAt_2 : decode cX2_tensionAt 2 = .ok (.invokevirtual 51, 3) := by decide +kernel
theorem dX2_tensionAt_5 : decode cX2_tensionAt 5 = .ok (.ifCond .ne 6, 3) := by decide +kernel
theorem dX2_tensionAt_8 : decode cX2_tensionAt 8 = .ok (.ldc 115, 2) := by decide +kernel
theorem dX2_tensionAt_10 : decode cX2_tensionAt 10 = .ok (.ireturn, 1) := by decide +kernel
theorem dX2_tensionAt_11 : decode cX2_tensionAt 11 = .ok (.iconst 0, 1) := by decide +kernel
theorem dX2_tensionAt_12 : decode cX2_tensionAt 12 = .ok (.istore_n 3, 1) := by decide +kernel
theorem dX2_tensionAt_13 : decode cX2_tensionAt 13 = .ok (.iconst 0, 1) := by decide +kernel
theorem dX2_tensionAt_14 : decode cX2_tensionAt 14 = .ok (.istore 4, 2) := by decide +kernel
theorem dX2_tensionAt_16 : decode cX2_tensionAt 16 = .ok (.iload 4, 2) := by decide +kernel
theorem dX2_tensionAt_18 : decode cX2_tensionAt 18 = .ok (.aload_n 0, 1) := by decide +kernel
theorem dX2_tensionAt_19 : decode cX2_tensionAt 19 = .ok (.getfield 15, 3) := by decide +kernel
theorem dX2_tensionAt_22 : decode cX2_tensionAt 22 = .ok (.getfield 96, 3) := by decide +kernel
theorem dX2_tensionAt_25 : decode cX2_tensionAt 25 = .ok (.if_icmp .ge 68, 3) := by decide +kernel
theorem dX2_tensionAt_28 : decode cX2_tensionAt 28 = .ok (.aload_n 0, 1) := by decide +kernel
theorem dX2_tensionAt_29 : decode cX2_tensionAt 29 = .ok (.getfield 15, 3) := by decide +kernel
theorem dX2_tensionAt_32 : decode cX2_tensionAt 32 = .ok (.iload 4, 2) := by decide +kernel
theorem dX2_tensionAt_34 : decode cX2_tensionAt 34 = .ok (.iload_n 2, 1) := by decide +kernel
theorem dX2_tensionAt_35 : decode cX2_tensionAt 35 = .ok (.invokevirtual 99, 3) := by decide +kernel
theorem dX2_tensionAt_38 : decode cX2_tensionAt 38 = .ok (.istore 5, 2) := by decide +kernel
theorem dX2_tensionAt_40 : decode cX2_tensionAt 40 = .ok (.iload 5, 2) := by decide +kernel
theorem dX2_tensionAt_42 : decode cX2_tensionAt 42 = .ok (.iconst (-1), 1) := by decide +kernel
theorem dX2_tensionAt_43 : decode cX2_tensionAt 43 = .ok (.if_icmp .eq 44, 3) := by decide +kernel
theorem dX2_tensionAt_46 : decode cX2_tensionAt 46 = .ok (.aload_n 1, 1) := by decide +kernel
theorem dX2_tensionAt_47 : decode cX2_tensionAt 47 = .ok (.iload 5, 2) := by decide +kernel
theorem dX2_tensionAt_49 : decode cX2_tensionAt 49 = .ok (.invokevirtual 51, 3) := by decide +kernel
theorem dX2_tensionAt_52 : decode cX2_tensionAt 52 = .ok (.ifCond .ne 6, 3) := by decide +kernel
theorem dX2_tensionAt_55 : decode cX2_tensionAt 55 = .ok (.goto 32, 3) := by decide +kernel
theorem dX2_tensionAt_58 : decode cX2_tensionAt 58 = .ok (.aload_n 1, 1) := by decide +kernel
theorem dX2_tensionAt_59 : decode cX2_tensionAt 59 = .ok (.iload_n 2, 1) := by decide +kernel
theorem dX2_tensionAt_60 : decode cX2_tensionAt 60 = .ok (.invokevirtual 78, 3) := by decide +kernel
theorem dX2_tensionAt_63 : decode cX2_tensionAt 63 = .ok (.aload_n 0, 1) := by decide +kernel
theorem dX2_tensionAt_64 : decode cX2_tensionAt 64 = .ok (.aload_n 1, 1) := by decide +kernel
theorem dX2_tensionAt_65 : decode cX2_tensionAt 65 = .ok (.iload 4, 2) := by decide +kernel
theorem dX2_tensionAt_67 : decode cX2_tensionAt 67 = .ok (.iload 5, 2) := by decide +kernel
theorem dX2_tensionAt_69 : decode cX2_tensionAt 69 = .ok (.invokevirtual 70, 3) := by decide +kernel
theorem dX2_tensionAt_72 : decode cX2_tensionAt 72 = .ok (.isub, 1) := by decide +kernel
theorem dX2_tensionAt_73 : decode cX2_tensionAt 73 = .ok (.invokestatic 116, 3) := by decide +kernel
theorem dX2_tensionAt_76 : decode cX2_tensionAt 76 = .ok (.istore 6, 2) := by decide +kernel
theorem dX2_tensionAt_78 : decode cX2_tensionAt 78 = .ok (.iload 6, 2) := by decide +kernel
theorem dX2_tensionAt_80 : decode cX2_tensionAt 80 = .ok (.iload_n 3, 1) := by decide +kernel
theorem dX2_tensionAt_81 : decode cX2_tensionAt 81 = .ok (.if_icmp .le 6, 3) := by decide +kernel
theorem dX2_tensionAt_84 : decode cX2_tensionAt 84 = .ok (.iload 6, 2) := by decide +kernel
theorem dX2_tensionAt_86 : decode cX2_tensionAt 86 = .ok (.istore_n 3, 1) := by decide +kernel
theorem dX2_tensionAt_87 : decode cX2_tensionAt 87 = .ok (.iinc 4 1, 3) := by decide +kernel
theorem dX2_tensionAt_90 : decode cX2_tensionAt 90 = .ok (.goto (-74), 3) := by decide +kernel
theorem dX2_tensionAt_93 : decode cX2_tensionAt 93 = .ok (.iload_n 3, 1) := by decide +kernel
theorem dX2_tensionAt_94 : decode cX2_tensionAt 94 = .ok (.ireturn, 1) := by decide +kernel
def rmX2_tensionAt : Room := rmk 10 0 0 236
theorem nX2_tensionAt : nameOk yX2_tensionAt 2 = true := by decide +kernel
def bX2_tensionAt_0 (J : JT) : List Value → Sem
  | [.ref x0, .ref x1, .int x2] =>
    ob 6 x1 (cI SX6_hasHeight [.ref x1, .int x2] fun v1 =>
    br (v1 = 0)
    (rI (-10000000))
    (J 1 [.ref x0, .ref x1, .int x2, .int 0, .int 0]))
  | _ => no
def bX2_tensionAt_1 (J : JT) : List Value → Sem
  | [.ref x0, .ref x1, .int x2, .int x3, .int x4] =>
    gR 2 0 x0 fun r1 =>
    gI 0 3 r1 fun v2 =>
    br (v2 ≤ x4)
    (rI x3)
    (gR 2 0 x0 fun r3 =>
    ob 0 r3 (cI SX0_otherEnd [.ref r3, .int x4, .int x2] fun v4 =>
    br (v4 = ((-1) : Int32))
    (J 1 [.ref x0, .ref x1, .int x2, .int x3, .int (x4 + 1)])
    (ob 6 x1 (cI SX6_hasHeight [.ref x1, .int v4] fun v5 =>
    br (v5 = 0)
    (J 1 [.ref x0, .ref x1, .int x2, .int x3, .int (x4 + 1)])
    (ob 6 x1 (cI SX6_heightOf [.ref x1, .int x2] fun v6 =>
    ob 2 x0 (cI SX2_told [.ref x0, .ref x1, .int x4, .int v4] fun v7 =>
    cI SJ9_abs_0f7a4 [.int (v6 - v7)] fun v8 =>
    br (v8 ≤ x3)
    (J 1 [.ref x0, .ref x1, .int x2, .int x3, .int (x4 + 1)])
    (J 1 [.ref x0, .ref x1, .int x2, .int v8, .int (x4 + 1)]))))))))
  | _ => no
def bX2_tensionAt (J : JT) : JT := fun L a => match L with
  | 0 => bX2_tensionAt_0 J a
  | 1 => bX2_tensionAt_1 J a
  | _ => no
def SX2_tensionAt : ST := mk 7 bX2_tensionAt
def lX2_tensionAt (L : Nat) (a : List Value) : Nat × Nat × Nat × List (Nat × Value) × List Value := match L with
  | 0 => (0, 0, 0, lv_args 0 a, [])
  | 1 => (0, 0, 16, List.zip [0, 1, 2, 3, 4] a, [])
  | _ => (0, 0, 0, [], [])
theorem pX2_tensionAt_0 {Γ : CT} (hC : Ctx Γ "SpiritWall$Heights" cX2_tensionAt 7 (some .int) rmX2_tensionAt) (hnt : NT Γ) (J : JT) (hJ : ∀ L a, Cor Γ 7 (lX2_tensionAt L a).1 (lX2_tensionAt L a).2.1 (lX2_tensionAt L a).2.2.1 (lX2_tensionAt L a).2.2.2.1 (lX2_tensionAt L a).2.2.2.2 (J L a)) (a : List Value) : Cor Γ 7 0 0 0 (lv_args 0 a) [] (bX2_tensionAt_0 J a) := by
  unfold bX2_tensionAt_0
  split
  · rename_i x0 x1 x2
    refine c_sub [0, 1, 2] rfl (loc' := [(0, .ref x0), (1, .ref x1), (2, .int x2)]) ?_
    refine q_aload_n hC 1 dX2_tensionAt_0 rfl rfl ?_
    refine q_iload_n hC 2 dX2_tensionAt_1 rfl rfl ?_
    refine q_cVI hC hnt (stk := []) (as := [.int x2]) sX6_hasHeight (ci := 6) (by decide) rfl nX6_hasHeight rfl w_698 w_607 w_608 w_35 w_606 (Nat.le_of_ble_eq_true rfl) dX2_tensionAt_2 rfl (fun v1 => ?_)
    refine q_if_ne hC 11 dX2_tensionAt_5 rfl ?_ ?_
    · refine q_iconst hC dX2_tensionAt_11 rfl ?_
      refine q_istore_nA hC (loc' := [(3, .int 0), (0, .ref x0), (1, .ref x1), (2, .int x2)]) dX2_tensionAt_12 rfl (Nat.le_of_ble_eq_true rfl) rfl ?_
      refine q_iconst hC dX2_tensionAt_13 rfl ?_
      refine q_istoreA hC (loc' := [(4, .int 0), (3, .int 0), (0, .ref x0), (1, .ref x1), (2, .int x2)]) dX2_tensionAt_14 (Nat.le_of_ble_eq_true rfl) rfl ?_
      exact c_sub [2, 3, 4, 1, 0] rfl (hJ 1 [.ref x0, .ref x1, .int x2, .int 0, .int 0])
    · refine q_ldc hC w_707 dX2_tensionAt_8 ?_
      exact q_iret hC dX2_tensionAt_10 (Nat.le_of_ble_eq_true rfl) (Nat.le_of_ble_eq_true rfl)
  · exact c_no
theorem pX2_tensionAt_1 {Γ : CT} (hC : Ctx Γ "SpiritWall$Heights" cX2_tensionAt 7 (some .int) rmX2_tensionAt) (hnt : NT Γ) (J : JT) (hJ : ∀ L a, Cor Γ 7 (lX2_tensionAt L a).1 (lX2_tensionAt L a).2.1 (lX2_tensionAt L a).2.2.1 (lX2_tensionAt L a).2.2.2.1 (lX2_tensionAt L a).2.2.2.2 (J L a)) (a : List Value) : Cor Γ 7 0 0 16 (List.zip [0, 1, 2, 3, 4] a) [] (bX2_tensionAt_1 J a) := by
  unfold bX2_tensionAt_1
  split
  · rename_i x0 x1 x2 x3 x4
    refine c_sub [0, 1, 2, 3, 4] rfl (loc' := [(0, .ref x0), (1, .ref x1), (2, .int x2), (3, .int x3), (4, .int x4)]) ?_
    refine q_iload hC 4 dX2_tensionAt_16 rfl ?_
    refine q_aload_n hC 0 dX2_tensionAt_18 rfl rfl ?_
    refine q_getR hC (by decide) (by decide) rfl w_122 dX2_tensionAt_19 (fun r1 => ?_)
    refine q_getI hC (by decide) (by decide) rfl w_694 dX2_tensionAt_22 (fun v2 => ?_)
    refine q_ic_ge hC 93 dX2_tensionAt_25 rfl ?_ ?_
    · refine q_iload_n hC 3 dX2_tensionAt_93 rfl rfl ?_
      exact q_iret hC dX2_tensionAt_94 (Nat.le_of_ble_eq_true rfl) (Nat.le_of_ble_eq_true rfl)
    · refine q_aload_n hC 0 dX2_tensionAt_28 rfl rfl ?_
      refine q_getR hC (by decide) (by decide) rfl w_122 dX2_tensionAt_29 (fun r3 => ?_)
      refine q_iload hC 4 dX2_tensionAt_32 rfl ?_
      refine q_iload_n hC 2 dX2_tensionAt_34 rfl rfl ?_
      refine q_cVI hC hnt (stk := []) (as := [.int x4, .int x2]) sX0_otherEnd (ci := 0) (by decide) rfl nX0_otherEnd rfl w_708 w_591 w_592 w_149 w_590 (Nat.le_of_ble_eq_true rfl) dX2_tensionAt_35 rfl (fun v4 => ?_)
      refine q_istoreA hC (loc' := [(5, .int v4), (0, .ref x0), (1, .ref x1), (2, .int x2), (3, .int x3), (4, .int x4)]) dX2_tensionAt_38 (Nat.le_of_ble_eq_true rfl) rfl ?_
      refine q_iload hC 0 dX2_tensionAt_40 rfl ?_
      refine q_iconst hC dX2_tensionAt_42 rfl ?_
      refine q_ic_eq hC 87 dX2_tensionAt_43 rfl ?_ ?_
      · refine q_iincA hC (loc' := [(4, .int (x4 + 1)), (5, .int v4), (0, .ref x0), (1, .ref x1), (2, .int x2), (3, .int x3)]) 5 1 dX2_tensionAt_87 rfl rfl (Nat.le_of_ble_eq_true rfl) rfl ?_
        refine q_goto hC 16 dX2_tensionAt_90 rfl ?_
        exact c_sub [2, 3, 4, 5, 0] rfl (hJ 1 [.ref x0, .ref x1, .int x2, .int x3, .int (x4 + 1)])
      · refine q_aload_n hC 2 dX2_tensionAt_46 rfl rfl ?_
        refine q_iload hC 0 dX2_tensionAt_47 rfl ?_
        refine q_cVI hC hnt (stk := []) (as := [.int v4]) sX6_hasHeight (ci := 6) (by decide) rfl nX6_hasHeight rfl w_698 w_607 w_608 w_35 w_606 (Nat.le_of_ble_eq_true rfl) dX2_tensionAt_49 rfl (fun v5 => ?_)
        refine q_if_ne hC 58 dX2_tensionAt_52 rfl ?_ ?_
        · refine q_aload_n hC 2 dX2_tensionAt_58 rfl rfl ?_
          refine q_iload_n hC 3 dX2_tensionAt_59 rfl rfl ?_
          refine q_cVI hC hnt (stk := []) (as := [.int x2]) sX6_heightOf (ci := 6) (by decide) rfl nX6_heightOf rfl w_692 w_612 w_613 w_35 w_611 (Nat.le_of_ble_eq_true rfl) dX2_tensionAt_60 rfl (fun v6 => ?_)
          refine q_aload_n hC 1 dX2_tensionAt_63 rfl rfl ?_
          refine q_aload_n hC 2 dX2_tensionAt_64 rfl rfl ?_
          refine q_iload hC 5 dX2_tensionAt_65 rfl ?_
          refine q_iload hC 0 dX2_tensionAt_67 rfl ?_
          refine q_cVI hC hnt (stk := [.int v6]) (as := [.ref x1, .int x4, .int v4]) sX2_told (ci := 2) (by decide) rfl nX2_told rfl w_699 w_701 w_702 w_164 w_700 (Nat.le_of_ble_eq_true rfl) dX2_tensionAt_69 rfl (fun v7 => ?_)
          refine q_isub hC dX2_tensionAt_72 ?_
          refine q_cSI hC hnt (stk := []) (as := [.int (v6 - v7)]) sJ9_abs_0f7a4 nJ9_abs_0f7a4 rfl w_709 w_687 w_351 w_686 (Nat.le_of_ble_eq_true rfl) dX2_tensionAt_73 rfl (fun v8 => ?_)
          refine q_istoreA hC (loc' := [(6, .int v8), (5, .int v4), (0, .ref x0), (1, .ref x1), (2, .int x2), (3, .int x3), (4, .int x4)]) dX2_tensionAt_76 (Nat.le_of_ble_eq_true rfl) rfl ?_
          refine q_iload hC 0 dX2_tensionAt_78 rfl ?_
          refine q_iload_n hC 5 dX2_tensionAt_80 rfl rfl ?_
          refine q_ic_le hC 87 dX2_tensionAt_81 rfl ?_ ?_
          · refine q_iincA hC (loc' := [(4, .int (x4 + 1)), (6, .int v8), (5, .int v4), (0, .ref x0), (1, .ref x1), (2, .int x2), (3, .int x3)]) 6 1 dX2_tensionAt_87 rfl rfl (Nat.le_of_ble_eq_true rfl) rfl ?_
            refine q_goto hC 16 dX2_tensionAt_90 rfl ?_
            exact c_sub [3, 4, 5, 6, 0] rfl (hJ 1 [.ref x0, .ref x1, .int x2, .int x3, .int (x4 + 1)])
          · refine q_iload hC 0 dX2_tensionAt_84 rfl ?_
            refine q_istore_nA hC (loc' := [(3, .int v8), (6, .int v8), (5, .int v4), (0, .ref x0), (1, .ref x1), (2, .int x2), (4, .int x4)]) dX2_tensionAt_86 rfl (Nat.le_of_ble_eq_true rfl) rfl ?_
            refine q_iincA hC (loc' := [(4, .int (x4 + 1)), (3, .int v8), (6, .int v8), (5, .int v4), (0, .ref x0), (1, .ref x1), (2, .int x2)]) 6 1 dX2_tensionAt_87 rfl rfl (Nat.le_of_ble_eq_true rfl) rfl ?_
            refine q_goto hC 16 dX2_tensionAt_90 rfl ?_
            exact c_sub [4, 5, 6, 1, 0] rfl (hJ 1 [.ref x0, .ref x1, .int x2, .int v8, .int (x4 + 1)])
        · refine q_goto hC 87 dX2_tensionAt_55 rfl ?_
          refine q_iincA hC (loc' := [(4, .int (x4 + 1)), (5, .int v4), (0, .ref x0), (1, .ref x1), (2, .int x2), (3, .int x3)]) 5 1 dX2_tensionAt_87 rfl rfl (Nat.le_of_ble_eq_true rfl) rfl ?_
          refine q_goto hC 16 dX2_tensionAt_90 rfl ?_
          exact c_sub [2, 3, 4, 5, 0] rfl (hJ 1 [.ref x0, .ref x1, .int x2, .int x3, .int (x4 + 1)])
  · exact c_no
theorem sX2_tensionAt : Snd yX2_tensionAt (.code yX2_tensionAt cX2_tensionAt 7 (some .int)) rmX2_tensionAt SX2_tensionAt := by
  refine Snd.of lX2_tensionAt (by decide +kernel) (fun _ => rfl) ?_
  intro Γ hC hnt hnm J hJ L a
  match L with
  | 0 => exact pX2_tensionAt_0 hC hnt J hJ a
  | 1 => exact pX2_tensionAt_1 hC hnt J hJ a
  | L + 2 => exact c_no
/-! SpiritWall.tension(I)I -/
theorem dX10_tension_0 : decode cX10_tension 0 = .ok (.aload_n 0, 1) := by decide +kernel
theorem dX10_tension_1 : decode cX10_tension 1 = .ok (.iload_n 1, 1) := by decide +kernel
theorem dX10_tension_2 : decode cX10_tension 2 = .ok (.invokevirtual 170, 3) := by decide +kernel
theorem dX10_tension_5 : decode cX10_tension 5 = .ok (.aload_n 0, 1) := by decide +kernel
theorem dX10_tension_6 : decode cX10_tension 6 = .ok (.getfield 62, 3) := by decide +kernel
theorem dX10_tension_9 : decode cX10_tension 9 = .ok (.aload_n 0, 1) := by decide +kernel
theorem dX10_tension_10 : decode cX10_tension 10 = .ok (.getfield 31, 3) := by decide +kernel
theorem dX10_tension_13 : decode cX10_tension 13 = .ok (.invokevirtual 164, 3) := by decide +kernel
theorem dX10_tension_16 : decode cX10_tension 16 = .ok (.aload_n 0, 1) := by decide +kernel
theorem dX10_tension_17 : decode cX10_tension 17 = .ok (.getfield 87, 3) := by decide +kernel
theorem dX10_tension_20 : decode cX10_tension 20 = .ok (.aload_n 0, 1) := by decide +kernel
theorem dX10_tension_21 : decode cX10_tension 21 = .ok (.getfield 31, 3) := by decide +kernel
theorem dX10_tension_24 : decode cX10_tension 24 = .ok (.iload_n 1, 1) := by decide +kernel
theorem dX10_tension_25 : decode cX10_tension 25 = .ok (.invokevirtual 333, 3) := by decide +kernel
theorem dX10_tension_28 : decode cX10_tension 28 = .ok (.ireturn, 1) := by decide +kernel
def rmX10_tension : Room := rmk 12 1 6 290
theorem nX10_tension : nameOk yX10_tension 1 = true := by decide +kernel
def bX10_tension_0 (J : JT) : List Value → Sem
  | [.ref x0, .int x1] =>
    ob 10 x0 (cV SX10_needMark [.ref x0, .int x1] <|
    gR 10 8 x0 fun r1 =>
    gR 10 3 x0 fun r2 =>
    ob 0 r1 (cV SX0_measure [.ref r1, .ref r2] <|
    gR 10 11 x0 fun r3 =>
    gR 10 3 x0 fun r4 =>
    ob 2 r3 (cI SX2_tensionAt [.ref r3, .ref r4, .int x1] fun v5 =>
    rI v5)))
  | _ => no
def bX10_tension (J : JT) : JT := fun L a => match L with
  | 0 => bX10_tension_0 J a
  | _ => no
def SX10_tension : ST := mk 2 bX10_tension
def lX10_tension (L : Nat) (a : List Value) : Nat × Nat × Nat × List (Nat × Value) × List Value := match L with
  | 0 => (0, 0, 0, lv_args 0 a, [])
  | _ => (0, 0, 0, [], [])
theorem pX10_tension_0 {Γ : CT} (hC : Ctx Γ "SpiritWall" cX10_tension 2 (some .int) rmX10_tension) (hnt : NT Γ) (J : JT) (hJ : ∀ L a, Cor Γ 2 (lX10_tension L a).1 (lX10_tension L a).2.1 (lX10_tension L a).2.2.1 (lX10_tension L a).2.2.2.1 (lX10_tension L a).2.2.2.2 (J L a)) (a : List Value) : Cor Γ 2 0 0 0 (lv_args 0 a) [] (bX10_tension_0 J a) := by
  unfold bX10_tension_0
  split
  · rename_i x0 x1
    refine c_sub [0, 1] rfl (loc' := [(0, .ref x0), (1, .int x1)]) ?_
    refine q_aload_n hC 0 dX10_tension_0 rfl rfl ?_
    refine q_iload_n hC 1 dX10_tension_1 rfl rfl ?_
    refine q_cVV hC hnt (stk := []) (as := [.int x1]) sX10_needMark (ci := 10) (by decide) rfl nX10_needMark rfl w_575 w_577 w_578 w_27 w_576 (Nat.le_of_ble_eq_true rfl) dX10_tension_2 rfl ?_
    refine q_aload_n hC 0 dX10_tension_5 rfl rfl ?_
    refine q_getR hC (by decide) (by decide) rfl w_150 dX10_tension_6 (fun r1 => ?_)
    refine q_aload_n hC 0 dX10_tension_9 rfl rfl ?_
    refine q_getR hC (by decide) (by decide) rfl w_133 dX10_tension_10 (fun r2 => ?_)
    refine q_cVV hC hnt (stk := []) (as := [.ref r2]) sX0_measure (ci := 0) (by decide) rfl nX0_measure rfl w_536 w_538 w_539 w_149 w_537 (Nat.le_of_ble_eq_true rfl) dX10_tension_13 rfl ?_
    refine q_aload_n hC 0 dX10_tension_16 rfl rfl ?_
    refine q_getR hC (by decide) (by decide) rfl w_165 dX10_tension_17 (fun r3 => ?_)
    refine q_aload_n hC 0 dX10_tension_20 rfl rfl ?_
    refine q_getR hC (by decide) (by decide) rfl w_133 dX10_tension_21 (fun r4 => ?_)
    refine q_iload_n hC 1 dX10_tension_24 rfl rfl ?_
    refine q_cVI hC hnt (stk := []) (as := [.ref r4, .int x1]) sX2_tensionAt (ci := 2) (by decide) rfl nX2_tensionAt rfl w_710 w_712 w_713 w_164 w_711 (Nat.le_of_ble_eq_true rfl) dX10_tension_25 rfl (fun v5 => ?_)
    exact q_iret hC dX10_tension_28 (Nat.le_of_ble_eq_true rfl) (Nat.le_of_ble_eq_true rfl)
  · exact c_no
theorem sX10_tension : Snd yX10_tension (.code yX10_tension cX10_tension 2 (some .int)) rmX10_tension SX10_tension := by
  refine Snd.of lX10_tension (by decide +kernel) (fun _ => rfl) ?_
  intro Γ hC hnt hnm J hJ L a
  match L with
  | 0 => exact pX10_tension_0 hC hnt J hJ a
  | L + 1 => exact c_no
/-! SpiritWall.tensest()I -/
theorem dX10_tensest_0 : decode cX10_tensest 0 = .ok (.aload_n 0, 1) := by decide +kernel
theorem dX10_tensest_1 : decode cX10_tensest 1 = .ok (.getfield 62, 3) := by decide +kernel
theorem dX10_tensest_4 : decode cX10_tensest 4 = .ok (.aload_n 0, 1) := by decide +kernel
theorem dX10_tensest_5 : decode cX10_tensest 5 = .ok (.getfield 31, 3) := by decide +kernel
theorem dX10_tensest_8 : decode cX10_tensest 8 = .ok (.invokevirtual 164, 3) := by decide +kernel
theorem dX10_tensest_11 : decode cX10_tensest 11 = .ok (.iconst (-1), 1) := by decide +kernel
theorem dX10_tensest_12 : decode cX10_tensest 12 = .ok (.istore_n 1, 1) := by decide +kernel
theorem dX10_tensest_13 : decode cX10_tensest 13 = .ok (.iconst 0, 1) := by decide +kernel
theorem dX10_tensest_14 : decode cX10_tensest 14 = .ok (.istore_n 2, 1) := by decide +kernel
theorem dX10_tensest_15 : decode cX10_tensest 15 = .ok (.iconst 0, 1) := by decide +kernel
theorem dX10_tensest_16 : decode cX10_tensest 16 = .ok (.istore_n 3, 1) := by decide +kernel
theorem dX10_tensest_17 : decode cX10_tensest 17 = .ok (.iload_n 3, 1) := by decide +kernel
theorem dX10_tensest_18 : decode cX10_tensest 18 = .ok (.aload_n 0, 1) := by decide +kernel
theorem dX10_tensest_19 : decode cX10_tensest 19 = .ok (.getfield 24, 3) := by decide +kernel
theorem dX10_tensest_22 : decode cX10_tensest 22 = .ok (.getfield 132, 3) := by decide +kernel
theorem dX10_tensest_25 : decode cX10_tensest 25 = .ok (.if_icmp .ge 34, 3) := by decide +kernel
theorem dX10_tensest_28 : decode cX10_tensest 28 = .ok (.aload_n 0, 1) := by decide +kernel
theorem dX10_tensest_29 : decode cX10_tensest 29 = .ok (.getfield 87, 3) := by decide +kernel
theorem dX10_tensest_32 : decode cX10_tensest 32 = .ok (.aload_n 0, 1) := by decide +kernel
theorem dX10_tensest_33 : decode cX10_tensest 33 = .ok (.getfield 31, 3) := by decide +kernel
theorem dX10_tensest_36 : decode cX10_tensest 36 = .ok (.iload_n 3, 1) := by decide +kernel
theorem dX10_tensest_37 : decode cX10_tensest 37 = .ok (.invokevirtual 333, 3) := by decide +kernel
theorem dX10_tensest_40 : decode cX10_tensest 40 = .ok (.istore 4, 2) := by decide +kernel
theorem dX10_tensest_42 : decode cX10_tensest 42 = .ok (.iload 4, 2) := by decide +kernel
theorem dX10_tensest_44 : decode cX10_tensest 44 = .ok (.iload_n 2, 1) := by decide +kernel
theorem dX10_tensest_45 : decode cX10_tensest 45 = .ok (.if_icmp .le 8, 3) := by decide +kernel
theorem dX10_tensest_48 : decode cX10_tensest 48 = .ok (.iload 4, 2) := by decide +kernel
theorem dX10_tensest_50 : decode cX10_tensest 50 = .ok (.istore_n 2, 1) := by decide +kernel
theorem dX10_tensest_51 : decode cX10_tensest 51 = .ok (.iload_n 3, 1) := by decide +kernel
theorem dX10_tensest_52 : decode cX10_tensest 52 = .ok (.istore_n 1, 1) := by decide +kernel
theorem dX10_tensest_53 : decode cX10_tensest 53 = .ok (.iinc 3 1, 3) := by decide +kernel
theorem dX10_tensest_56 : decode cX10_tensest 56 = .ok (.goto (-39), 3) := by decide +kernel
theorem dX10_tensest_59 : decode cX10_tensest 59 = .ok (.iload_n 1, 1) := by decide +kernel
theorem dX10_tensest_60 : decode cX10_tensest 60 = .ok (.ireturn, 1) := by decide +kernel
def rmX10_tensest : Room := rmk 12 0 0 290
theorem nX10_tensest : nameOk yX10_tensest 0 = true := by decide +kernel
def bX10_tensest_0 (J : JT) : List Value → Sem
  | [.ref x0] =>
    gR 10 8 x0 fun r1 =>
    gR 10 3 x0 fun r2 =>
    ob 0 r1 (cV SX0_measure [.ref r1, .ref r2] <|
    J 1 [.ref x0, .int (-1), .int 0, .int 0])
  | _ => no
def bX10_tensest_1 (J : JT) : List Value → Sem
  | [.ref x0, .int x1, .int x2, .int x3] =>
    gR 10 2 x0 fun r1 =>
    gI 9 0 r1 fun v2 =>
    br (v2 ≤ x3)
    (rI x1)
    (gR 10 11 x0 fun r3 =>
    gR 10 3 x0 fun r4 =>
    ob 2 r3 (cI SX2_tensionAt [.ref r3, .ref r4, .int x3] fun v5 =>
    br (v5 ≤ x2)
    (J 1 [.ref x0, .int x1, .int x2, .int (x3 + 1)])
    (J 1 [.ref x0, .int x3, .int v5, .int (x3 + 1)])))
  | _ => no
def bX10_tensest (J : JT) : JT := fun L a => match L with
  | 0 => bX10_tensest_0 J a
  | 1 => bX10_tensest_1 J a
  | _ => no
def SX10_tensest : ST := mk 5 bX10_tensest
def lX10_tensest (L : Nat) (a : List Value) : Nat × Nat × Nat × List (Nat × Value) × List Value := match L with
  | 0 => (0, 0, 0, lv_args 0 a, [])
  | 1 => (0, 0, 17, List.zip [0, 1, 2, 3] a, [])
  | _ => (0, 0, 0, [], [])
theorem pX10_tensest_0 {Γ : CT} (hC : Ctx Γ "SpiritWall" cX10_tensest 5 (some .int) rmX10_tensest) (hnt : NT Γ) (J : JT) (hJ : ∀ L a, Cor Γ 5 (lX10_tensest L a).1 (lX10_tensest L a).2.1 (lX10_tensest L a).2.2.1 (lX10_tensest L a).2.2.2.1 (lX10_tensest L a).2.2.2.2 (J L a)) (a : List Value) : Cor Γ 5 0 0 0 (lv_args 0 a) [] (bX10_tensest_0 J a) := by
  unfold bX10_tensest_0
  split
  · rename_i x0
    refine c_sub [0] rfl (loc' := [(0, .ref x0)]) ?_
    refine q_aload_n hC 0 dX10_tensest_0 rfl rfl ?_
    refine q_getR hC (by decide) (by decide) rfl w_150 dX10_tensest_1 (fun r1 => ?_)
    refine q_aload_n hC 0 dX10_tensest_4 rfl rfl ?_
    refine q_getR hC (by decide) (by decide) rfl w_133 dX10_tensest_5 (fun r2 => ?_)
    refine q_cVV hC hnt (stk := []) (as := [.ref r2]) sX0_measure (ci := 0) (by decide) rfl nX0_measure rfl w_536 w_538 w_539 w_149 w_537 (Nat.le_of_ble_eq_true rfl) dX10_tensest_8 rfl ?_
    refine q_iconst hC dX10_tensest_11 rfl ?_
    refine q_istore_nA hC (loc' := [(1, .int (-1)), (0, .ref x0)]) dX10_tensest_12 rfl (Nat.le_of_ble_eq_true rfl) rfl ?_
    refine q_iconst hC dX10_tensest_13 rfl ?_
    refine q_istore_nA hC (loc' := [(2, .int 0), (1, .int (-1)), (0, .ref x0)]) dX10_tensest_14 rfl (Nat.le_of_ble_eq_true rfl) rfl ?_
    refine q_iconst hC dX10_tensest_15 rfl ?_
    refine q_istore_nA hC (loc' := [(3, .int 0), (2, .int 0), (1, .int (-1)), (0, .ref x0)]) dX10_tensest_16 rfl (Nat.le_of_ble_eq_true rfl) rfl ?_
    exact c_sub [3, 2, 1, 0] rfl (hJ 1 [.ref x0, .int (-1), .int 0, .int 0])
  · exact c_no
theorem pX10_tensest_1 {Γ : CT} (hC : Ctx Γ "SpiritWall" cX10_tensest 5 (some .int) rmX10_tensest) (hnt : NT Γ) (J : JT) (hJ : ∀ L a, Cor Γ 5 (lX10_tensest L a).1 (lX10_tensest L a).2.1 (lX10_tensest L a).2.2.1 (lX10_tensest L a).2.2.2.1 (lX10_tensest L a).2.2.2.2 (J L a)) (a : List Value) : Cor Γ 5 0 0 17 (List.zip [0, 1, 2, 3] a) [] (bX10_tensest_1 J a) := by
  unfold bX10_tensest_1
  split
  · rename_i x0 x1 x2 x3
    refine c_sub [0, 1, 2, 3] rfl (loc' := [(0, .ref x0), (1, .int x1), (2, .int x2), (3, .int x3)]) ?_
    refine q_iload_n hC 3 dX10_tensest_17 rfl rfl ?_
    refine q_aload_n hC 0 dX10_tensest_18 rfl rfl ?_
    refine q_getR hC (by decide) (by decide) rfl w_131 dX10_tensest_19 (fun r1 => ?_)
    refine q_getI hC (by decide) (by decide) rfl w_346 dX10_tensest_22 (fun v2 => ?_)
    refine q_ic_ge hC 59 dX10_tensest_25 rfl ?_ ?_
    · refine q_iload_n hC 1 dX10_tensest_59 rfl rfl ?_
      exact q_iret hC dX10_tensest_60 (Nat.le_of_ble_eq_true rfl) (Nat.le_of_ble_eq_true rfl)
    · refine q_aload_n hC 0 dX10_tensest_28 rfl rfl ?_
      refine q_getR hC (by decide) (by decide) rfl w_165 dX10_tensest_29 (fun r3 => ?_)
      refine q_aload_n hC 0 dX10_tensest_32 rfl rfl ?_
      refine q_getR hC (by decide) (by decide) rfl w_133 dX10_tensest_33 (fun r4 => ?_)
      refine q_iload_n hC 3 dX10_tensest_36 rfl rfl ?_
      refine q_cVI hC hnt (stk := []) (as := [.ref r4, .int x3]) sX2_tensionAt (ci := 2) (by decide) rfl nX2_tensionAt rfl w_710 w_712 w_713 w_164 w_711 (Nat.le_of_ble_eq_true rfl) dX10_tensest_37 rfl (fun v5 => ?_)
      refine q_istoreA hC (loc' := [(4, .int v5), (0, .ref x0), (1, .int x1), (2, .int x2), (3, .int x3)]) dX10_tensest_40 (Nat.le_of_ble_eq_true rfl) rfl ?_
      refine q_iload hC 0 dX10_tensest_42 rfl ?_
      refine q_iload_n hC 3 dX10_tensest_44 rfl rfl ?_
      refine q_ic_le hC 53 dX10_tensest_45 rfl ?_ ?_
      · refine q_iincA hC (loc' := [(3, .int (x3 + 1)), (4, .int v5), (0, .ref x0), (1, .int x1), (2, .int x2)]) 4 1 dX10_tensest_53 rfl rfl (Nat.le_of_ble_eq_true rfl) rfl ?_
        refine q_goto hC 17 dX10_tensest_56 rfl ?_
        exact c_sub [2, 3, 4, 0] rfl (hJ 1 [.ref x0, .int x1, .int x2, .int (x3 + 1)])
      · refine q_iload hC 0 dX10_tensest_48 rfl ?_
        refine q_istore_nA hC (loc' := [(2, .int v5), (4, .int v5), (0, .ref x0), (1, .int x1), (3, .int x3)]) dX10_tensest_50 rfl (Nat.le_of_ble_eq_true rfl) rfl ?_
        refine q_iload_n hC 4 dX10_tensest_51 rfl rfl ?_
        refine q_istore_nA hC (loc' := [(1, .int x3), (2, .int v5), (4, .int v5), (0, .ref x0), (3, .int x3)]) dX10_tensest_52 rfl (Nat.le_of_ble_eq_true rfl) rfl ?_
        refine q_iincA hC (loc' := [(3, .int (x3 + 1)), (1, .int x3), (2, .int v5), (4, .int v5), (0, .ref x0)]) 4 1 dX10_tensest_53 rfl rfl (Nat.le_of_ble_eq_true rfl) rfl ?_
        refine q_goto hC 17 dX10_tensest_56 rfl ?_
        exact c_sub [4, 1, 2, 0] rfl (hJ 1 [.ref x0, .int x3, .int v5, .int (x3 + 1)])
  · exact c_no
theorem sX10_tensest : Snd yX10_tensest (.code yX10_tensest cX10_tensest 5 (some .int)) rmX10_tensest SX10_tensest := by
  refine Snd.of lX10_tensest (by decide +kernel) (fun _ => rfl) ?_
  intro Γ hC hnt hnm J hJ L a
  match L with
  | 0 => exact pX10_tensest_0 hC hnt J hJ a
  | 1 => exact pX10_tensest_1 hC hnt J hJ a
  | L + 2 => exact c_no
/-! SpiritWall.neighbour(II)I -/
theorem dX10_neighbour_0 : decode cX10_neighbour 0 = .ok (.aload_n 0, 1) := by decide +kernel
theorem dX10_neighbour_1 : decode cX10_neighbour 1 = .ok (.iload_n 1, 1) := by decide +kernel
theorem dX10_neighbour_2 : decode cX10_neighbour 2 = .ok (.invokevirtual 170, 3) := by decide +kernel
theorem dX10_neighbour_5 : decode cX10_neighbour 5 = .ok (.aload_n 0, 1) := by decide +kernel
theorem dX10_neighbour_6 : decode cX10_neighbour 6 = .ok (.getfield 62, 3) := by decide +kernel
theorem dX10_neighbour_9 : decode cX10_neighbour 9 = .ok (.aload_n 0, 1) := by decide +kernel
theorem dX10_neighbour_10 : decode cX10_neighbour 10 = .ok (.getfield 31, 3) := by decide +kernel
theorem dX10_neighbour_13 : decode cX10_neighbour 13 = .ok (.invokevirtual 164, 3) := by decide +kernel
theorem dX10_neighbour_16 : decode cX10_neighbour 16 = .ok (.iconst 0, 1) := by decide +kernel
theorem dX10_neighbour_17 : decode cX10_neighbour 17 = .ok (.istore_n 3, 1) := by decide +kernel
theorem dX10_neighbour_18 : decode cX10_neighbour 18 = .ok (.iconst 0, 1) := by decide +kernel
theorem dX10_neighbour_19 : decode cX10_neighbour 19 = .ok (.istore 4, 2) := by decide +kernel
theorem dX10_neighbour_21 : decode cX10_neighbour 21 = .ok (.iload 4, 2) := by decide +kernel
theorem dX10_neighbour_23 : decode cX10_neighbour 23 = .ok (.aload_n 0, 1) := by decide +kernel
theorem dX10_neighbour_24 : decode cX10_neighbour 24 = .ok (.getfield 24, 3) := by decide +kernel
theorem dX10_neighbour_27 : decode cX10_neighbour 27 = .ok (.getfield 132, 3) := by decide +kernel
theorem dX10_neighbour_30 : decode cX10_neighbour 30 = .ok (.if_icmp .ge 37, 3) := by decide +kernel
theorem dX10_neighbour_33 : decode cX10_neighbour 33 = .ok (.aload_n 0, 1) := by decide +kernel
theorem dX10_neighbour_34 : decode cX10_neighbour 34 = .ok (.getfield 62, 3) := by decide +kernel
theorem dX10_neighbour_37 : decode cX10_neighbour 37 = .ok (.iload_n 1, 1) := by decide +kernel
theorem dX10_neighbour_38 : decode cX10_neighbour 38 = .ok (.iload 4, 2) := by decide +kernel
theorem dX10_neighbour_40 : decode cX10_neighbour 40 = .ok (.invokevirtual 173, 3) := by decide +kernel
theorem dX10_neighbour_43 : decode cX10_neighbour 43 = .ok (.iconst (-1), 1) := by decide +kernel
theorem dX10_neighbour_44 : decode cX10_neighbour 44 = .ok (.if_icmp .ne 6, 3) := by decide +kernel
theorem dX10_neighbour_47 : decode cX10_neighbour 47 = .ok (.goto 14, 3) := by decide +kernel
theorem dX10_neighbour_50 : decode cX10_neighbour 50 = .ok (.iload_n 3, 1) := by decide +kernel
theorem dX10_neighbour_51 : decode cX10_neighbour 51 = .ok (.iload_n 2, 1) := by decide +kernel
theorem dX10_neighbour_52 : decode cX10_neighbour 52 = .ok (.if_icmp .ne 6, 3) := by decide +kernel
theorem dX10_neighbour_55 : decode cX10_neighbour 55 = .ok (.iload 4, 2) := by decide +kernel
theorem dX10_neighbour_57 : decode cX10_neighbour 57 = .ok (.ireturn, 1) := by decide +kernel
theorem dX10_neighbour_58 : decode cX10_neighbour 58 = .ok (.iinc 3 1, 3) := by decide +kernel
theorem dX10_neighbour_61 : decode cX10_neighbour 61 = .ok (.iinc 4 1, 3) := by decide +kernel
theorem dX10_neighbour_64 : decode cX10_neighbour 64 = .ok (.goto (-43), 3) := by decide +kernel
theorem dX10_neighbour_67 : decode cX10_neighbour 67 = .ok (.iconst (-1), 1) := by decide +kernel
theorem dX10_neighbour_68 : decode cX10_neighbour 68 = .ok (.ireturn, 1) := by decide +kernel
def rmX10_neighbour : Room := rmk 12 1 6 290
theorem nX10_neighbour : nameOk yX10_neighbour 2 = true := by decide +kernel
def bX10_neighbour_0 (J : JT) : List Value → Sem
  | [.ref x0, .int x1, .int x2] =>
    ob 10 x0 (cV SX10_needMark [.ref x0, .int x1] <|
    gR 10 8 x0 fun r1 =>
    gR 10 3 x0 fun r2 =>
    ob 0 r1 (cV SX0_measure [.ref r1, .ref r2] <|
    J 1 [.ref x0, .int x1, .int x2, .int 0, .int 0]))
  | _ => no
def bX10_neighbour_1 (J : JT) : List Value → Sem
  | [.ref x0, .int x1, .int x2, .int x3, .int x4] =>
    gR 10 2 x0 fun r1 =>
    gI 9 0 r1 fun v2 =>
    br (v2 ≤ x4)
    (rI (-1))
    (gR 10 8 x0 fun r3 =>
    ob 0 r3 (cI SX0_between [.ref r3, .int x1, .int x4] fun v4 =>
    br (v4 = ((-1) : Int32))
    (J 1 [.ref x0, .int x1, .int x2, .int x3, .int (x4 + 1)])
    (br (x3 = x2)
    (rI x4)
    (J 1 [.ref x0, .int x1, .int x2, .int (x3 + 1), .int (x4 + 1)]))))
  | _ => no
def bX10_neighbour (J : JT) : JT := fun L a => match L with
  | 0 => bX10_neighbour_0 J a
  | 1 => bX10_neighbour_1 J a
  | _ => no
def SX10_neighbour : ST := mk 5 bX10_neighbour
def lX10_neighbour (L : Nat) (a : List Value) : Nat × Nat × Nat × List (Nat × Value) × List Value := match L with
  | 0 => (0, 0, 0, lv_args 0 a, [])
  | 1 => (1, 6, 21, List.zip [0, 1, 2, 3, 4] a, [])
  | _ => (0, 0, 0, [], [])
theorem pX10_neighbour_0 {Γ : CT} (hC : Ctx Γ "SpiritWall" cX10_neighbour 5 (some .int) rmX10_neighbour) (hnt : NT Γ) (J : JT) (hJ : ∀ L a, Cor Γ 5 (lX10_neighbour L a).1 (lX10_neighbour L a).2.1 (lX10_neighbour L a).2.2.1 (lX10_neighbour L a).2.2.2.1 (lX10_neighbour L a).2.2.2.2 (J L a)) (a : List Value) : Cor Γ 5 0 0 0 (lv_args 0 a) [] (bX10_neighbour_0 J a) := by
  unfold bX10_neighbour_0
  split
  · rename_i x0 x1 x2
    refine c_sub [0, 1, 2] rfl (loc' := [(0, .ref x0), (1, .int x1), (2, .int x2)]) ?_
    refine q_aload_n hC 0 dX10_neighbour_0 rfl rfl ?_
    refine q_iload_n hC 1 dX10_neighbour_1 rfl rfl ?_
    refine q_cVV hC hnt (stk := []) (as := [.int x1]) sX10_needMark (ci := 10) (by decide) rfl nX10_needMark rfl w_575 w_577 w_578 w_27 w_576 (Nat.le_of_ble_eq_true rfl) dX10_neighbour_2 rfl ?_
    refine q_aload_n hC 0 dX10_neighbour_5 rfl rfl ?_
    refine q_getR hC (by decide) (by decide) rfl w_150 dX10_neighbour_6 (fun r1 => ?_)
    refine q_aload_n hC 0 dX10_neighbour_9 rfl rfl ?_
    refine q_getR hC (by decide) (by decide) rfl w_133 dX10_neighbour_10 (fun r2 => ?_)
    refine q_cVV hC hnt (stk := []) (as := [.ref r2]) sX0_measure (ci := 0) (by decide) rfl nX0_measure rfl w_536 w_538 w_539 w_149 w_537 (Nat.le_of_ble_eq_true rfl) dX10_neighbour_13 rfl ?_
    refine q_iconst hC dX10_neighbour_16 rfl ?_
    refine q_istore_nA hC (loc' := [(3, .int 0), (0, .ref x0), (1, .int x1), (2, .int x2)]) dX10_neighbour_17 rfl (Nat.le_of_ble_eq_true rfl) rfl ?_
    refine q_iconst hC dX10_neighbour_18 rfl ?_
    refine q_istoreA hC (loc' := [(4, .int 0), (3, .int 0), (0, .ref x0), (1, .int x1), (2, .int x2)]) dX10_neighbour_19 (Nat.le_of_ble_eq_true rfl) rfl ?_
    exact c_sub [2, 3, 4, 1, 0] rfl (hJ 1 [.ref x0, .int x1, .int x2, .int 0, .int 0])
  · exact c_no
theorem pX10_neighbour_1 {Γ : CT} (hC : Ctx Γ "SpiritWall" cX10_neighbour 5 (some .int) rmX10_neighbour) (hnt : NT Γ) (J : JT) (hJ : ∀ L a, Cor Γ 5 (lX10_neighbour L a).1 (lX10_neighbour L a).2.1 (lX10_neighbour L a).2.2.1 (lX10_neighbour L a).2.2.2.1 (lX10_neighbour L a).2.2.2.2 (J L a)) (a : List Value) : Cor Γ 5 1 6 21 (List.zip [0, 1, 2, 3, 4] a) [] (bX10_neighbour_1 J a) := by
  unfold bX10_neighbour_1
  split
  · rename_i x0 x1 x2 x3 x4
    refine c_sub [0, 1, 2, 3, 4] rfl (loc' := [(0, .ref x0), (1, .int x1), (2, .int x2), (3, .int x3), (4, .int x4)]) ?_
    refine q_iload hC 4 dX10_neighbour_21 rfl ?_
    refine q_aload_n hC 0 dX10_neighbour_23 rfl rfl ?_
    refine q_getR hC (by decide) (by decide) rfl w_131 dX10_neighbour_24 (fun r1 => ?_)
    refine q_getI hC (by decide) (by decide) rfl w_346 dX10_neighbour_27 (fun v2 => ?_)
    refine q_ic_ge hC 67 dX10_neighbour_30 rfl ?_ ?_
    · refine q_iconst hC dX10_neighbour_67 rfl ?_
      exact q_iret hC dX10_neighbour_68 (Nat.le_of_ble_eq_true rfl) (Nat.le_of_ble_eq_true rfl)
    · refine q_aload_n hC 0 dX10_neighbour_33 rfl rfl ?_
      refine q_getR hC (by decide) (by decide) rfl w_150 dX10_neighbour_34 (fun r3 => ?_)
      refine q_iload_n hC 1 dX10_neighbour_37 rfl rfl ?_
      refine q_iload hC 4 dX10_neighbour_38 rfl ?_
      refine q_cVI hC hnt (stk := []) (as := [.int x1, .int x4]) sX0_between (ci := 0) (by decide) rfl nX0_between rfl w_579 w_406 w_407 w_149 w_405 (Nat.le_of_ble_eq_true rfl) dX10_neighbour_40 rfl (fun v4 => ?_)
      refine q_iconst hC dX10_neighbour_43 rfl ?_
      refine q_ic_ne hC 50 dX10_neighbour_44 rfl ?_ ?_
      · refine q_iload_n hC 3 dX10_neighbour_50 rfl rfl ?_
        refine q_iload_n hC 2 dX10_neighbour_51 rfl rfl ?_
        refine q_ic_ne hC 58 dX10_neighbour_52 rfl ?_ ?_
        · refine q_iincA hC (loc' := [(3, .int (x3 + 1)), (0, .ref x0), (1, .int x1), (2, .int x2), (4, .int x4)]) 3 1 dX10_neighbour_58 rfl rfl (Nat.le_of_ble_eq_true rfl) rfl ?_
          refine q_iincA hC (loc' := [(4, .int (x4 + 1)), (3, .int (x3 + 1)), (0, .ref x0), (1, .int x1), (2, .int x2)]) 4 1 dX10_neighbour_61 rfl rfl (Nat.le_of_ble_eq_true rfl) rfl ?_
          refine q_goto hC 21 dX10_neighbour_64 rfl ?_
          exact c_sub [2, 3, 4, 1, 0] rfl (hJ 1 [.ref x0, .int x1, .int x2, .int (x3 + 1), .int (x4 + 1)])
        · refine q_iload hC 4 dX10_neighbour_55 rfl ?_
          exact q_iret hC dX10_neighbour_57 (Nat.le_of_ble_eq_true rfl) (Nat.le_of_ble_eq_true rfl)
      · refine q_goto hC 61 dX10_neighbour_47 rfl ?_
        refine q_iincA hC (loc' := [(4, .int (x4 + 1)), (0, .ref x0), (1, .int x1), (2, .int x2), (3, .int x3)]) 4 1 dX10_neighbour_61 rfl rfl (Nat.le_of_ble_eq_true rfl) rfl ?_
        refine q_goto hC 21 dX10_neighbour_64 rfl ?_
        exact c_sub [1, 2, 3, 4, 0] rfl (hJ 1 [.ref x0, .int x1, .int x2, .int x3, .int (x4 + 1)])
  · exact c_no
theorem sX10_neighbour : Snd yX10_neighbour (.code yX10_neighbour cX10_neighbour 5 (some .int)) rmX10_neighbour SX10_neighbour := by
  refine Snd.of lX10_neighbour (by decide +kernel) (fun _ => rfl) ?_
  intro Γ hC hnt hnm J hJ L a
  match L with
  | 0 => exact pX10_neighbour_0 hC hnt J hJ a
  | 1 => exact pX10_neighbour_1 hC hnt J hJ a
  | L + 2 => exact c_no
/-! SpiritWall$Loops.loopsThrough(I)I -/
theorem dX4_loopsThrough_0 : decode cX4_loopsThrough 0 = .ok (.iconst 0, 1) := by decide +kernel
theorem dX4_loopsThrough_1 : decode cX4_loopsThrough 1 = .ok (.istore_n 2, 1) := by decide +kernel
theorem dX4_loopsThrough_2 : decode cX4_loopsThrough 2 = .ok (.iconst 0, 1) := by decide +kernel
theorem dX4_loopsThrough_3 : decode cX4_loopsThrough 3 = .ok (.istore_n 3, 1) := by decide +kernel
theorem dX4_loopsThrough_4 : decode cX4_loopsThrough 4 = .ok (.iload_n 3, 1) := by decide +kernel
theorem dX4_loopsThrough_5 : decode cX4_loopsThrough 5 = .ok (.aload_n 0, 1) := by decide +kernel
theorem dX4_loopsThrough_6 : decode cX4_loopsThrough 6 = .ok (.getfield 9, 3) := by decide +kernel
theorem dX4_loopsThrough_9 : decode cX4_loopsThrough 9 = .ok (.if_icmp .ge 49, 3) := by decide +kernel
theorem dX4_loopsThrough_12 : decode cX4_loopsThrough 12 = .ok (.aload_n 0, 1) := by decide +kernel
theorem dX4_loopsThrough_13 : decode cX4_loopsThrough 13 = .ok (.getfield 18, 3) := by decide +kernel
theorem dX4_loopsThrough_16 : decode cX4_loopsThrough 16 = .ok (.iload_n 3, 1) := by decide +kernel
theorem dX4_loopsThrough_17 : decode cX4_loopsThrough 17 = .ok (.invokestatic 57, 3) := by decide +kernel
theorem dX4_loopsThrough_20 : decode cX4_loopsThrough 20 = .ok (.istore 4, 2) := by decide +kernel
theorem dX4_loopsThrough_22 : decode cX4_loopsThrough 22 = .ok (.iconst 0, 1) := by decide +kernel
theorem dX4_loopsThrough_23 : decode cX4_loopsThrough 23 = .ok (.istore 5, 2) := by decide +kernel
theorem dX4_loopsThrough_25 : decode cX4_loopsThrough 25 = .ok (.iload 5, 2) := by decide +kernel
theorem dX4_loopsThrough_27 : decode cX4_loopsThrough 27 = .ok (.iload 4, 2) := by decide +kernel
theorem dX4_loopsThrough_29 : decode cX4_loopsThrough 29 = .ok (.if_icmp .ge 23, 3) := by decide +kernel
theorem dX4_loopsThrough_32 : decode cX4_loopsThrough 32 = .ok (.aload_n 0, 1) := by decide +kernel
theorem dX4_loopsThrough_33 : decode cX4_loopsThrough 33 = .ok (.iload_n 3, 1) := by decide +kernel
theorem dX4_loopsThrough_34 : decode cX4_loopsThrough 34 = .ok (.iload 5, 2) := by decide +kernel
theorem dX4_loopsThrough_36 : decode cX4_loopsThrough 36 = .ok (.invokevirtual 105, 3) := by decide +kernel
theorem dX4_loopsThrough_39 : decode cX4_loopsThrough 39 = .ok (.iload_n 1, 1) := by decide +kernel
theorem dX4_loopsThrough_40 : decode cX4_loopsThrough 40 = .ok (.if_icmp .ne 6, 3) := by decide +kernel
theorem dX4_loopsThrough_43 : decode cX4_loopsThrough 43 = .ok (.iinc 2 1, 3) := by decide +kernel
theorem dX4_loopsThrough_46 : decode cX4_loopsThrough 46 = .ok (.iinc 5 1, 3) := by decide +kernel
theorem dX4_loopsThrough_49 : decode cX4_loopsThrough 49 = .ok (.goto (-24), 3) := by decide +kernel
theorem dX4_loopsThrough_52 : decode cX4_loopsThrough 52 = .ok (.iinc 3 1, 3) := by decide +kernel
theorem dX4_loopsThrough_55 : decode cX4_loopsThrough 55 = .ok (.goto (-51), 3) := by decide +kernel
theorem dX4_loopsThrough_58 : decode cX4_loopsThrough 58 = .ok (.iload_n 2, 1) := by decide +kernel
theorem dX4_loopsThrough_59 : decode cX4_loopsThrough 59 = .ok (.ireturn, 1) := by decide +kernel
def rmX4_loopsThrough : Room := rmk 8 0 0 193
theorem nX4_loopsThrough : nameOk yX4_loopsThrough 1 = true := by decide +kernel
def bX4_loopsThrough_0 (J : JT) : List Value → Sem
  | [.ref x0, .int x1] =>
    J 1 [.ref x0, .int x1, .int 0, .int 0]
  | _ => no
def bX4_loopsThrough_1 (J : JT) : List Value → Sem
  | [.ref x0, .int x1, .int x2, .int x3] =>
    gI 4 2 x0 fun v1 =>
    br (v1 ≤ x3)
    (rI x2)
    (gR 4 4 x0 fun r2 =>
    cI SX10_cell [.ref r2, .int x3] fun v3 =>
    J 2 [.ref x0, .int x1, .int x2, .int x3, .int v3, .int 0])
  | _ => no
def bX4_loopsThrough_2 (J : JT) : List Value → Sem
  | [.ref x0, .int x1, .int x2, .int x3, .int x4, .int x5] =>
    br (x4 ≤ x5)
    (J 1 [.ref x0, .int x1, .int x2, .int (x3 + 1)])
    (ob 4 x0 (cI SX4_markAt [.ref x0, .int x3, .int x5] fun v1 =>
    br (v1 = x1)
    (J 2 [.ref x0, .int x1, .int (x2 + 1), .int x3, .int x4, .int (x5 + 1)])
    (J 2 [.ref x0, .int x1, .int x2, .int x3, .int x4, .int (x5 + 1)])))
  | _ => no
def bX4_loopsThrough (J : JT) : JT := fun L a => match L with
  | 0 => bX4_loopsThrough_0 J a
  | 1 => bX4_loopsThrough_1 J a
  | 2 => bX4_loopsThrough_2 J a
  | _ => no
def SX4_loopsThrough : ST := mk 6 bX4_loopsThrough
def lX4_loopsThrough (L : Nat) (a : List Value) : Nat × Nat × Nat × List (Nat × Value) × List Value := match L with
  | 0 => (0, 0, 0, lv_args 0 a, [])
  | 1 => (0, 0, 4, List.zip [0, 1, 2, 3] a, [])
  | 2 => (0, 0, 25, List.zip [0, 1, 2, 3, 4, 5] a, [])
  | _ => (0, 0, 0, [], [])
theorem pX4_loopsThrough_0 {Γ : CT} (hC : Ctx Γ "SpiritWall$Loops" cX4_loopsThrough 6 (some .int) rmX4_loopsThrough) (hnt : NT Γ) (J : JT) (hJ : ∀ L a, Cor Γ 6 (lX4_loopsThrough L a).1 (lX4_loopsThrough L a).2.1 (lX4_loopsThrough L a).2.2.1 (lX4_loopsThrough L a).2.2.2.1 (lX4_loopsThrough L a).2.2.2.2 (J L a)) (a : List Value) : Cor Γ 6 0 0 0 (lv_args 0 a) [] (bX4_loopsThrough_0 J a) := by
  unfold bX4_loopsThrough_0
  split
  · rename_i x0 x1
    refine c_sub [0, 1] rfl (loc' := [(0, .ref x0), (1, .int x1)]) ?_
    refine q_iconst hC dX4_loopsThrough_0 rfl ?_
    refine q_istore_nA hC (loc' := [(2, .int 0), (0, .ref x0), (1, .int x1)]) dX4_loopsThrough_1 rfl (Nat.le_of_ble_eq_true rfl) rfl ?_
    refine q_iconst hC dX4_loopsThrough_2 rfl ?_
    refine q_istore_nA hC (loc' := [(3, .int 0), (2, .int 0), (0, .ref x0), (1, .int x1)]) dX4_loopsThrough_3 rfl (Nat.le_of_ble_eq_true rfl) rfl ?_
    exact c_sub [2, 3, 1, 0] rfl (hJ 1 [.ref x0, .int x1, .int 0, .int 0])
  · exact c_no
theorem pX4_loopsThrough_1 {Γ : CT} (hC : Ctx Γ "SpiritWall$Loops" cX4_loopsThrough 6 (some .int) rmX4_loopsThrough) (hnt : NT Γ) (J : JT) (hJ : ∀ L a, Cor Γ 6 (lX4_loopsThrough L a).1 (lX4_loopsThrough L a).2.1 (lX4_loopsThrough L a).2.2.1 (lX4_loopsThrough L a).2.2.2.1 (lX4_loopsThrough L a).2.2.2.2 (J L a)) (a : List Value) : Cor Γ 6 0 0 4 (List.zip [0, 1, 2, 3] a) [] (bX4_loopsThrough_1 J a) := by
  unfold bX4_loopsThrough_1
  split
  · rename_i x0 x1 x2 x3
    refine c_sub [0, 1, 2, 3] rfl (loc' := [(0, .ref x0), (1, .int x1), (2, .int x2), (3, .int x3)]) ?_
    refine q_iload_n hC 3 dX4_loopsThrough_4 rfl rfl ?_
    refine q_aload_n hC 0 dX4_loopsThrough_5 rfl rfl ?_
    refine q_getI hC (by decide) (by decide) rfl w_110 dX4_loopsThrough_6 (fun v1 => ?_)
    refine q_ic_ge hC 58 dX4_loopsThrough_9 rfl ?_ ?_
    · refine q_iload_n hC 2 dX4_loopsThrough_58 rfl rfl ?_
      exact q_iret hC dX4_loopsThrough_59 (Nat.le_of_ble_eq_true rfl) (Nat.le_of_ble_eq_true rfl)
    · refine q_aload_n hC 0 dX4_loopsThrough_12 rfl rfl ?_
      refine q_getR hC (by decide) (by decide) rfl w_112 dX4_loopsThrough_13 (fun r2 => ?_)
      refine q_iload_n hC 3 dX4_loopsThrough_16 rfl rfl ?_
      refine q_cNI hC hnt (stk := []) (as := [.ref r2, .int x3]) sX10_cell nX10_cell rfl w_501 w_202 w_27 w_201 (Nat.le_of_ble_eq_true rfl) dX4_loopsThrough_17 rfl (fun v3 => ?_)
      refine q_istoreA hC (loc' := [(4, .int v3), (0, .ref x0), (1, .int x1), (2, .int x2), (3, .int x3)]) dX4_loopsThrough_20 (Nat.le_of_ble_eq_true rfl) rfl ?_
      refine q_iconst hC dX4_loopsThrough_22 rfl ?_
      refine q_istoreA hC (loc' := [(5, .int 0), (4, .int v3), (0, .ref x0), (1, .int x1), (2, .int x2), (3, .int x3)]) dX4_loopsThrough_23 (Nat.le_of_ble_eq_true rfl) rfl ?_
      exact c_sub [2, 3, 4, 5, 1, 0] rfl (hJ 2 [.ref x0, .int x1, .int x2, .int x3, .int v3, .int 0])
  · exact c_no
theorem pX4_loopsThrough_2 {Γ : CT} (hC : Ctx Γ "SpiritWall$Loops" cX4_loopsThrough 6 (some .int) rmX4_loopsThrough) (hnt : NT Γ) (J : JT) (hJ : ∀ L a, Cor Γ 6 (lX4_loopsThrough L a).1 (lX4_loopsThrough L a).2.1 (lX4_loopsThrough L a).2.2.1 (lX4_loopsThrough L a).2.2.2.1 (lX4_loopsThrough L a).2.2.2.2 (J L a)) (a : List Value) : Cor Γ 6 0 0 25 (List.zip [0, 1, 2, 3, 4, 5] a) [] (bX4_loopsThrough_2 J a) := by
  unfold bX4_loopsThrough_2
  split
  · rename_i x0 x1 x2 x3 x4 x5
    refine c_sub [0, 1, 2, 3, 4, 5] rfl (loc' := [(0, .ref x0), (1, .int x1), (2, .int x2), (3, .int x3), (4, .int x4), (5, .int x5)]) ?_
    refine q_iload hC 5 dX4_loopsThrough_25 rfl ?_
    refine q_iload hC 4 dX4_loopsThrough_27 rfl ?_
    refine q_ic_ge hC 52 dX4_loopsThrough_29 rfl ?_ ?_
    · refine q_iincA hC (loc' := [(3, .int (x3 + 1)), (0, .ref x0), (1, .int x1), (2, .int x2), (4, .int x4), (5, .int x5)]) 3 1 dX4_loopsThrough_52 rfl rfl (Nat.le_of_ble_eq_true rfl) rfl ?_
      refine q_goto hC 4 dX4_loopsThrough_55 rfl ?_
      exact c_sub [1, 2, 3, 0] rfl (hJ 1 [.ref x0, .int x1, .int x2, .int (x3 + 1)])
    · refine q_aload_n hC 0 dX4_loopsThrough_32 rfl rfl ?_
      refine q_iload_n hC 3 dX4_loopsThrough_33 rfl rfl ?_
      refine q_iload hC 5 dX4_loopsThrough_34 rfl ?_
      refine q_cVI hC hnt (stk := []) (as := [.int x3, .int x5]) sX4_markAt (ci := 4) (by decide) rfl nX4_markAt rfl w_515 w_517 w_518 w_159 w_516 (Nat.le_of_ble_eq_true rfl) dX4_loopsThrough_36 rfl (fun v1 => ?_)
      refine q_iload_n hC 1 dX4_loopsThrough_39 rfl rfl ?_
      refine q_ic_ne hC 46 dX4_loopsThrough_40 rfl ?_ ?_
      · refine q_iincA hC (loc' := [(5, .int (x5 + 1)), (0, .ref x0), (1, .int x1), (2, .int x2), (3, .int x3), (4, .int x4)]) 5 1 dX4_loopsThrough_46 rfl rfl (Nat.le_of_ble_eq_true rfl) rfl ?_
        refine q_goto hC 25 dX4_loopsThrough_49 rfl ?_
        exact c_sub [1, 2, 3, 4, 5, 0] rfl (hJ 2 [.ref x0, .int x1, .int x2, .int x3, .int x4, .int (x5 + 1)])
      · refine q_iincA hC (loc' := [(2, .int (x2 + 1)), (0, .ref x0), (1, .int x1), (3, .int x3), (4, .int x4), (5, .int x5)]) 2 1 dX4_loopsThrough_43 rfl rfl (Nat.le_of_ble_eq_true rfl) rfl ?_
        refine q_iincA hC (loc' := [(5, .int (x5 + 1)), (2, .int (x2 + 1)), (0, .ref x0), (1, .int x1), (3, .int x3), (4, .int x4)]) 5 1 dX4_loopsThrough_46 rfl rfl (Nat.le_of_ble_eq_true rfl) rfl ?_
        refine q_goto hC 25 dX4_loopsThrough_49 rfl ?_
        exact c_sub [2, 3, 1, 4, 5, 0] rfl (hJ 2 [.ref x0, .int x1, .int (x2 + 1), .int x3, .int x4, .int (x5 + 1)])
  · exact c_no
theorem sX4_loopsThrough : Snd yX4_loopsThrough (.code yX4_loopsThrough cX4_loopsThrough 6 (some .int)) rmX4_loopsThrough SX4_loopsThrough := by
  refine Snd.of lX4_loopsThrough (by decide +kernel) (fun _ => rfl) ?_
  intro Γ hC hnt hnm J hJ L a
  match L with
  | 0 => exact pX4_loopsThrough_0 hC hnt J hJ a
  | 1 => exact pX4_loopsThrough_1 hC hnt J hJ a
  | 2 => exact pX4_loopsThrough_2 hC hnt J hJ a
  | L + 3 => exact c_no
/-! SpiritWall.loopsOf(I)I -/
theorem dX10_loopsOf_0 : decode cX10_loopsOf 0 = .ok (.aload_n 0, 1) := by decide +kernel
theorem dX10_loopsOf_1 : decode cX10_loopsOf 1 = .ok (.iload_n 1, 1) := by decide +kernel
theorem dX10_loopsOf_2 : decode cX10_loopsOf 2 = .ok (.invokevirtual 170, 3) := by decide +kernel
theorem dX10_loopsOf_5 : decode cX10_loopsOf 5 = .ok (.aload_n 0, 1) := by decide +kernel
theorem dX10_loopsOf_6 : decode cX10_loopsOf 6 = .ok (.aload_n 0, 1) := by decide +kernel
theorem dX10_loopsOf_7 : decode cX10_loopsOf 7 = .ok (.getfield 31, 3) := by decide +kernel
theorem dX10_loopsOf_10 : decode cX10_loopsOf 10 = .ok (.invokevirtual 135, 3) := by decide +kernel
theorem dX10_loopsOf_13 : decode cX10_loopsOf 13 = .ok (.aload_n 0, 1) := by decide +kernel
theorem dX10_loopsOf_14 : decode cX10_loopsOf 14 = .ok (.getfield 80, 3) := by decide +kernel
theorem dX10_loopsOf_17 : decode cX10_loopsOf 17 = .ok (.iload_n 1, 1) := by decide +kernel
theorem dX10_loopsOf_18 : decode cX10_loopsOf 18 = .ok (.invokevirtual 337, 3) := by decide +kernel
theorem dX10_loopsOf_21 : decode cX10_loopsOf 21 = .ok (.ireturn, 1) := by decide +kernel
def rmX10_loopsOf : Room := rmk 13 1 6 311
theorem nX10_loopsOf : nameOk yX10_loopsOf 1 = true := by decide +kernel
def bX10_loopsOf_0 (J : JT) : List Value → Sem
  | [.ref x0, .int x1] =>
    ob 10 x0 (cV SX10_needMark [.ref x0, .int x1] <|
    gR 10 3 x0 fun r1 =>
    ob 10 x0 (cV SX10_survey [.ref x0, .ref r1] <|
    gR 10 10 x0 fun r2 =>
    ob 4 r2 (cI SX4_loopsThrough [.ref r2, .int x1] fun v3 =>
    rI v3)))
  | _ => no
def bX10_loopsOf (J : JT) : JT := fun L a => match L with
  | 0 => bX10_loopsOf_0 J a
  | _ => no
def SX10_loopsOf : ST := mk 2 bX10_loopsOf
def lX10_loopsOf (L : Nat) (a : List Value) : Nat × Nat × Nat × List (Nat × Value) × List Value := match L with
  | 0 => (0, 0, 0, lv_args 0 a, [])
  | _ => (0, 0, 0, [], [])
theorem pX10_loopsOf_0 {Γ : CT} (hC : Ctx Γ "SpiritWall" cX10_loopsOf 2 (some .int) rmX10_loopsOf) (hnt : NT Γ) (J : JT) (hJ : ∀ L a, Cor Γ 2 (lX10_loopsOf L a).1 (lX10_loopsOf L a).2.1 (lX10_loopsOf L a).2.2.1 (lX10_loopsOf L a).2.2.2.1 (lX10_loopsOf L a).2.2.2.2 (J L a)) (a : List Value) : Cor Γ 2 0 0 0 (lv_args 0 a) [] (bX10_loopsOf_0 J a) := by
  unfold bX10_loopsOf_0
  split
  · rename_i x0 x1
    refine c_sub [0, 1] rfl (loc' := [(0, .ref x0), (1, .int x1)]) ?_
    refine q_aload_n hC 0 dX10_loopsOf_0 rfl rfl ?_
    refine q_iload_n hC 1 dX10_loopsOf_1 rfl rfl ?_
    refine q_cVV hC hnt (stk := []) (as := [.int x1]) sX10_needMark (ci := 10) (by decide) rfl nX10_needMark rfl w_575 w_577 w_578 w_27 w_576 (Nat.le_of_ble_eq_true rfl) dX10_loopsOf_2 rfl ?_
    refine q_aload_n hC 0 dX10_loopsOf_5 rfl rfl ?_
    refine q_aload_n hC 0 dX10_loopsOf_6 rfl rfl ?_
    refine q_getR hC (by decide) (by decide) rfl w_133 dX10_loopsOf_7 (fun r1 => ?_)
    refine q_cVV hC hnt (stk := []) (as := [.ref r1]) sX10_survey (ci := 10) (by decide) rfl nX10_survey rfl w_552 w_554 w_555 w_27 w_553 (Nat.le_of_ble_eq_true rfl) dX10_loopsOf_10 rfl ?_
    refine q_aload_n hC 0 dX10_loopsOf_13 rfl rfl ?_
    refine q_getR hC (by decide) (by decide) rfl w_160 dX10_loopsOf_14 (fun r2 => ?_)
    refine q_iload_n hC 1 dX10_loopsOf_17 rfl rfl ?_
    refine q_cVI hC hnt (stk := []) (as := [.int x1]) sX4_loopsThrough (ci := 4) (by decide) rfl nX4_loopsThrough rfl w_714 w_716 w_717 w_159 w_715 (Nat.le_of_ble_eq_true rfl) dX10_loopsOf_18 rfl (fun v3 => ?_)
    exact q_iret hC dX10_loopsOf_21 (Nat.le_of_ble_eq_true rfl) (Nat.le_of_ble_eq_true rfl)
  · exact c_no
theorem sX10_loopsOf : Snd yX10_loopsOf (.code yX10_loopsOf cX10_loopsOf 2 (some .int)) rmX10_loopsOf SX10_loopsOf := by
  refine Snd.of lX10_loopsOf (by decide +kernel) (fun _ => rfl) ?_
  intro Γ hC hnt hnm J hJ L a
  match L with
  | 0 => exact pX10_loopsOf_0 hC hnt J hJ a
  | L + 1 => exact c_no
/-! SpiritWall.bridges()I -/
theorem dX10_bridges_0 : decode cX10_bridges 0 = .ok (.aload_n 0, 1) := by decide +kernel
theorem dX10_bridges_1 : decode cX10_bridges 1 = .ok (.aload_n 0, 1) := by decide +kernel
theorem dX10_bridges_2 : decode cX10_bridges 2 = .ok (.getfield 31, 3) := by decide +kernel
theorem dX10_bridges_5 : decode cX10_bridges 5 = .ok (.invokevirtual 135, 3) := by decide +kernel
theorem dX10_bridges_8 : decode cX10_bridges 8 = .ok (.iconst 0, 1) := by decide +kernel
theorem dX10_bridges_9 : decode cX10_bridges 9 = .ok (.istore_n 1, 1) := by decide +kernel
theorem dX10_bridges_10 : decode cX10_bridges 10 = .ok (.iconst 0, 1) := by decide +kernel
theorem dX10_bridges_11 : decode cX10_bridges 11 = .ok (.istore_n 2, 1) := by decide +kernel
theorem dX10_bridges_12 : decode cX10_bridges 12 = .ok (.iload_n 2, 1) := by decide +kernel
theorem dX10_bridges_13 : decode cX10_bridges 13 = .ok (.aload_n 0, 1) := by decide +kernel
theorem dX10_bridges_14 : decode cX10_bridges 14 = .ok (.getfield 62, 3) := by decide +kernel
theorem dX10_bridges_17 : decode cX10_bridges 17 = .ok (.getfield 148, 3) := by decide +kernel
theorem dX10_bridges_20 : decode cX10_bridges 20 = .ok (.if_icmp .ge 26, 3) := by decide +kernel
theorem dX10_bridges_23 : decode cX10_bridges 23 = .ok (.aload_n 0, 1) := by decide +kernel
theorem dX10_bridges_24 : decode cX10_bridges 24 = .ok (.getfield 80, 3) := by decide +kernel
theorem dX10_bridges_27 : decode cX10_bridges 27 = .ok (.getfield 275, 3) := by decide +kernel
theorem dX10_bridges_30 : decode cX10_bridges 30 = .ok (.iload_n 2, 1) := by decide +kernel
theorem dX10_bridges_31 : decode cX10_bridges 31 = .ok (.invokestatic 190, 3) := by decide +kernel
theorem dX10_bridges_34 : decode cX10_bridges 34 = .ok (.ifCond .ne 6, 3) := by decide +kernel
theorem dX10_bridges_37 : decode cX10_bridges 37 = .ok (.iinc 1 1, 3) := by decide +kernel
theorem dX10_bridges_40 : decode cX10_bridges 40 = .ok (.iinc 2 1, 3) := by decide +kernel
theorem dX10_bridges_43 : decode cX10_bridges 43 = .ok (.goto (-31), 3) := by decide +kernel
theorem dX10_bridges_46 : decode cX10_bridges 46 = .ok (.iload_n 1, 1) := by decide +kernel
theorem dX10_bridges_47 : decode cX10_bridges 47 = .ok (.ireturn, 1) := by decide +kernel
def rmX10_bridges : Room := rmk 13 0 0 311
theorem nX10_bridges : nameOk yX10_bridges 0 = true := by decide +kernel
def bX10_bridges_0 (J : JT) : List Value → Sem
  | [.ref x0] =>
    gR 10 3 x0 fun r1 =>
    ob 10 x0 (cV SX10_survey [.ref x0, .ref r1] <|
    J 1 [.ref x0, .int 0, .int 0])
  | _ => no
def bX10_bridges_1 (J : JT) : List Value → Sem
  | [.ref x0, .int x1, .int x2] =>
    gR 10 8 x0 fun r1 =>
    gI 0 3 r1 fun v2 =>
    br (v2 ≤ x2)
    (rI x1)
    (gR 10 10 x0 fun r3 =>
    gR 4 8 r3 fun r4 =>
    cI SX10_cell [.ref r4, .int x2] fun v5 =>
    br (v5 = 0)
    (J 1 [.ref x0, .int (x1 + 1), .int (x2 + 1)])
    (J 1 [.ref x0, .int x1, .int (x2 + 1)]))
  | _ => no
def bX10_bridges (J : JT) : JT := fun L a => match L with
  | 0 => bX10_bridges_0 J a
  | 1 => bX10_bridges_1 J a
  | _ => no
def SX10_bridges : ST := mk 3 bX10_bridges
def lX10_bridges (L : Nat) (a : List Value) : Nat × Nat × Nat × List (Nat × Value) × List Value := match L with
  | 0 => (0, 0, 0, lv_args 0 a, [])
  | 1 => (0, 0, 12, List.zip [0, 1, 2] a, [])
  | _ => (0, 0, 0, [], [])
theorem pX10_bridges_0 {Γ : CT} (hC : Ctx Γ "SpiritWall" cX10_bridges 3 (some .int) rmX10_bridges) (hnt : NT Γ) (J : JT) (hJ : ∀ L a, Cor Γ 3 (lX10_bridges L a).1 (lX10_bridges L a).2.1 (lX10_bridges L a).2.2.1 (lX10_bridges L a).2.2.2.1 (lX10_bridges L a).2.2.2.2 (J L a)) (a : List Value) : Cor Γ 3 0 0 0 (lv_args 0 a) [] (bX10_bridges_0 J a) := by
  unfold bX10_bridges_0
  split
  · rename_i x0
    refine c_sub [0] rfl (loc' := [(0, .ref x0)]) ?_
    refine q_aload_n hC 0 dX10_bridges_0 rfl rfl ?_
    refine q_aload_n hC 0 dX10_bridges_1 rfl rfl ?_
    refine q_getR hC (by decide) (by decide) rfl w_133 dX10_bridges_2 (fun r1 => ?_)
    refine q_cVV hC hnt (stk := []) (as := [.ref r1]) sX10_survey (ci := 10) (by decide) rfl nX10_survey rfl w_552 w_554 w_555 w_27 w_553 (Nat.le_of_ble_eq_true rfl) dX10_bridges_5 rfl ?_
    refine q_iconst hC dX10_bridges_8 rfl ?_
    refine q_istore_nA hC (loc' := [(1, .int 0), (0, .ref x0)]) dX10_bridges_9 rfl (Nat.le_of_ble_eq_true rfl) rfl ?_
    refine q_iconst hC dX10_bridges_10 rfl ?_
    refine q_istore_nA hC (loc' := [(2, .int 0), (1, .int 0), (0, .ref x0)]) dX10_bridges_11 rfl (Nat.le_of_ble_eq_true rfl) rfl ?_
    exact c_sub [2, 1, 0] rfl (hJ 1 [.ref x0, .int 0, .int 0])
  · exact c_no
theorem pX10_bridges_1 {Γ : CT} (hC : Ctx Γ "SpiritWall" cX10_bridges 3 (some .int) rmX10_bridges) (hnt : NT Γ) (J : JT) (hJ : ∀ L a, Cor Γ 3 (lX10_bridges L a).1 (lX10_bridges L a).2.1 (lX10_bridges L a).2.2.1 (lX10_bridges L a).2.2.2.1 (lX10_bridges L a).2.2.2.2 (J L a)) (a : List Value) : Cor Γ 3 0 0 12 (List.zip [0, 1, 2] a) [] (bX10_bridges_1 J a) := by
  unfold bX10_bridges_1
  split
  · rename_i x0 x1 x2
    refine c_sub [0, 1, 2] rfl (loc' := [(0, .ref x0), (1, .int x1), (2, .int x2)]) ?_
    refine q_iload_n hC 2 dX10_bridges_12 rfl rfl ?_
    refine q_aload_n hC 0 dX10_bridges_13 rfl rfl ?_
    refine q_getR hC (by decide) (by decide) rfl w_150 dX10_bridges_14 (fun r1 => ?_)
    refine q_getI hC (by decide) (by decide) rfl w_565 dX10_bridges_17 (fun v2 => ?_)
    refine q_ic_ge hC 46 dX10_bridges_20 rfl ?_ ?_
    · refine q_iload_n hC 1 dX10_bridges_46 rfl rfl ?_
      exact q_iret hC dX10_bridges_47 (Nat.le_of_ble_eq_true rfl) (Nat.le_of_ble_eq_true rfl)
    · refine q_aload_n hC 0 dX10_bridges_23 rfl rfl ?_
      refine q_getR hC (by decide) (by decide) rfl w_160 dX10_bridges_24 (fun r3 => ?_)
      refine q_getR hC (by decide) (by decide) rfl w_653 dX10_bridges_27 (fun r4 => ?_)
      refine q_iload_n hC 2 dX10_bridges_30 rfl rfl ?_
      refine q_cSI hC hnt (stk := []) (as := [.ref r4, .int x2]) sX10_cell nX10_cell rfl w_408 w_202 w_27 w_201 (Nat.le_of_ble_eq_true rfl) dX10_bridges_31 rfl (fun v5 => ?_)
      refine q_if_ne hC 40 dX10_bridges_34 rfl ?_ ?_
      · refine q_iincA hC (loc' := [(2, .int (x2 + 1)), (0, .ref x0), (1, .int x1)]) 2 1 dX10_bridges_40 rfl rfl (Nat.le_of_ble_eq_true rfl) rfl ?_
        refine q_goto hC 12 dX10_bridges_43 rfl ?_
        exact c_sub [1, 2, 0] rfl (hJ 1 [.ref x0, .int x1, .int (x2 + 1)])
      · refine q_iincA hC (loc' := [(1, .int (x1 + 1)), (0, .ref x0), (2, .int x2)]) 1 1 dX10_bridges_37 rfl rfl (Nat.le_of_ble_eq_true rfl) rfl ?_
        refine q_iincA hC (loc' := [(2, .int (x2 + 1)), (1, .int (x1 + 1)), (0, .ref x0)]) 2 1 dX10_bridges_40 rfl rfl (Nat.le_of_ble_eq_true rfl) rfl ?_
        refine q_goto hC 12 dX10_bridges_43 rfl ?_
        exact c_sub [2, 1, 0] rfl (hJ 1 [.ref x0, .int (x1 + 1), .int (x2 + 1)])
  · exact c_no
theorem sX10_bridges : Snd yX10_bridges (.code yX10_bridges cX10_bridges 3 (some .int)) rmX10_bridges SX10_bridges := by
  refine Snd.of lX10_bridges (by decide +kernel) (fun _ => rfl) ?_
  intro Γ hC hnt hnm J hJ L a
  match L with
  | 0 => exact pX10_bridges_0 hC hnt J hJ a
  | 1 => exact pX10_bridges_1 hC hnt J hJ a
  | L + 2 => exact c_no
/-! SpiritWall.meanSwings()D -/
theorem dX10_meanSwings_0 : decode cX10_meanSwings 0 = .ok (.aload_n 0, 1) := by decide +kernel
theorem dX10_meanSwings_1 : decode cX10_meanSwings 1 = .ok (.getfield 62, 3) := by decide +kernel
theorem dX10_meanSwings_4 : decode cX10_meanSwings 4 = .ok (.aload_n 0, 1) := by decide +kernel
theorem dX10_meanSwings_5 : decode cX10_meanSwings 5 = .ok (.getfield 31, 3) := by decide +kernel
theorem dX10_meanSwings_8 : decode cX10_meanSwings 8 = .ok (.invokevirtual 164, 3) := by decide +kernel
theorem dX10_meanSwings_11 : decode cX10_meanSwings 11 = .ok (.iconst 0, 1) := by decide +kernel
theorem dX10_meanSwings_12 : decode cX10_meanSwings 12 = .ok (.istore_n 1, 1) := by decide +kernel
theorem dX10_meanSwings_13 : decode cX10_meanSwings 13 = .ok (.iconst 0, 1) := by decide +kernel
theorem dX10_meanSwings_14 : decode cX10_meanSwings 14 = .ok (.istore_n 2, 1) := by decide +kernel
theorem dX10_meanSwings_15 : decode cX10_meanSwings 15 = .ok (.iconst 0, 1) := by decide +kernel
theorem dX10_meanSwings_16 : decode cX10_meanSwings 16 = .ok (.istore_n 3, 1) := by decide +kernel
theorem dX10_meanSwings_17 : decode cX10_meanSwings 17 = .ok (.iload_n 3, 1) := by decide +kernel
theorem dX10_meanSwings_18 : decode cX10_meanSwings 18 = .ok (.aload_n 0, 1) := by decide +kernel
theorem dX10_meanSwings_19 : decode cX10_meanSwings 19 = .ok (.getfield 31, 3) := by decide +kernel
theorem dX10_meanSwings_22 : decode cX10_meanSwings 22 = .ok (.getfield 142, 3) := by decide +kernel
theorem dX10_meanSwings_25 : decode cX10_meanSwings 25 = .ok (.if_icmp .ge 37, 3) := by decide +kernel
theorem dX10_meanSwings_28 : decode cX10_meanSwings 28 = .ok (.aload_n 0, 1) := by decide +kernel
theorem dX10_meanSwings_29 : decode cX10_meanSwings 29 = .ok (.getfield 31, 3) := by decide +kernel
theorem dX10_meanSwings_32 : decode cX10_meanSwings 32 = .ok (.iload_n 3, 1) := by decide +kernel
theorem dX10_meanSwings_33 : decode cX10_meanSwings 33 = .ok (.invokevirtual 340, 3) := by decide +kernel
theorem dX10_meanSwings_36 : decode cX10_meanSwings 36 = .ok (.ifCond .ne 6, 3) := by decide +kernel
theorem dX10_meanSwings_39 : decode cX10_meanSwings 39 = .ok (.goto 17, 3) := by decide +kernel
theorem dX10_meanSwings_42 : decode cX10_meanSwings 42 = .ok (.iload_n 1, 1) := by decide +kernel
theorem dX10_meanSwings_43 : decode cX10_meanSwings 43 = .ok (.aload_n 0, 1) := by decide +kernel
theorem dX10_meanSwings_44 : decode cX10_meanSwings 44 = .ok (.getfield 62, 3) := by decide +kernel
theorem dX10_meanSwings_47 : decode cX10_meanSwings 47 = .ok (.iload_n 3, 1) := by decide +kernel
theorem dX10_meanSwings_48 : decode cX10_meanSwings 48 = .ok (.invokevirtual 242, 3) := by decide +kernel
theorem dX10_meanSwings_51 : decode cX10_meanSwings 51 = .ok (.iadd, 1) := by decide +kernel
theorem dX10_meanSwings_52 : decode cX10_meanSwings 52 = .ok (.istore_n 1, 1) := by decide +kernel
theorem dX10_meanSwings_53 : decode cX10_meanSwings 53 = .ok (.iinc 2 1, 3) := by decide +kernel
theorem dX10_meanSwings_56 : decode cX10_meanSwings 56 = .ok (.iinc 3 1, 3) := by decide +kernel
theorem dX10_meanSwings_59 : decode cX10_meanSwings 59 = .ok (.goto (-42), 3) := by decide +kernel
theorem dX10_meanSwings_62 : decode cX10_meanSwings 62 = .ok (.iload_n 2, 1) := by decide +kernel
theorem dX10_meanSwings_63 : decode cX10_meanSwings 63 = .ok (.ifCond .ne 7, 3) := by decide +kernel
theorem dX10_meanSwings_66 : decode cX10_meanSwings 66 = .ok (.dconst 0, 1) := by decide +kernel
theorem dX10_meanSwings_67 : decode cX10_meanSwings 67 = .ok (.goto 8, 3) := by decide +kernel
theorem dX10_meanSwings_70 : decode cX10_meanSwings 70 = .ok (.iload_n 1, 1) := by decide +kernel
theorem dX10_meanSwings_71 : decode cX10_meanSwings 71 = .ok (.i2d, 1) := by decide +kernel
theorem dX10_meanSwings_72 : decode cX10_meanSwings 72 = .ok (.iload_n 2, 1) := by decide +kernel
theorem dX10_meanSwings_73 : decode cX10_meanSwings 73 = .ok (.i2d, 1) := by decide +kernel
theorem dX10_meanSwings_74 : decode cX10_meanSwings 74 = .ok (.ddiv, 1) := by decide +kernel
theorem dX10_meanSwings_75 : decode cX10_meanSwings 75 = .ok (.dreturn, 1) := by decide +kernel
def rmX10_meanSwings : Room := rmk 12 0 0 290
theorem nX10_meanSwings : nameOk yX10_meanSwings 0 = true := by decide +kernel
def bX10_meanSwings_0 (J : JT) : List Value → Sem
  | [.ref x0] =>
    gR 10 8 x0 fun r1 =>
    gR 10 3 x0 fun r2 =>
    ob 0 r1 (cV SX0_measure [.ref r1, .ref r2] <|
    J 1 [.ref x0, .int 0, .int 0, .int 0])
  | _ => no
def bX10_meanSwings_1 (J : JT) : List Value → Sem
  | [.ref x0, .int x1, .int x2, .int x3] =>
    gR 10 3 x0 fun r1 =>
    gI 6 6 r1 fun v2 =>
    br (v2 ≤ x3)
    (br (x2 = 0)
    (rD FP.dconst0)
    (nan64 (FP.ddiv (FP.i2d x1) (FP.i2d x2)) <|
    rD (FP.ddiv (FP.i2d x1) (FP.i2d x2))))
    (gR 10 3 x0 fun r3 =>
    ob 6 r3 (cI SX6_counts [.ref r3, .int x3] fun v4 =>
    br (v4 = 0)
    (J 1 [.ref x0, .int x1, .int x2, .int (x3 + 1)])
    (gR 10 8 x0 fun r5 =>
    ob 0 r5 (cI SX0_swingsOf [.ref r5, .int x3] fun v6 =>
    lI (x1 + v6) fun y1_7 =>
    J 1 [.ref x0, .int y1_7, .int (x2 + 1), .int (x3 + 1)]))))
  | _ => no
def bX10_meanSwings (J : JT) : JT := fun L a => match L with
  | 0 => bX10_meanSwings_0 J a
  | 1 => bX10_meanSwings_1 J a
  | _ => no
def SX10_meanSwings : ST := mk 4 bX10_meanSwings
def lX10_meanSwings (L : Nat) (a : List Value) : Nat × Nat × Nat × List (Nat × Value) × List Value := match L with
  | 0 => (0, 0, 0, lv_args 0 a, [])
  | 1 => (0, 0, 17, List.zip [0, 1, 2, 3] a, [])
  | _ => (0, 0, 0, [], [])
theorem pX10_meanSwings_0 {Γ : CT} (hC : Ctx Γ "SpiritWall" cX10_meanSwings 4 (some .double) rmX10_meanSwings) (hnt : NT Γ) (J : JT) (hJ : ∀ L a, Cor Γ 4 (lX10_meanSwings L a).1 (lX10_meanSwings L a).2.1 (lX10_meanSwings L a).2.2.1 (lX10_meanSwings L a).2.2.2.1 (lX10_meanSwings L a).2.2.2.2 (J L a)) (a : List Value) : Cor Γ 4 0 0 0 (lv_args 0 a) [] (bX10_meanSwings_0 J a) := by
  unfold bX10_meanSwings_0
  split
  · rename_i x0
    refine c_sub [0] rfl (loc' := [(0, .ref x0)]) ?_
    refine q_aload_n hC 0 dX10_meanSwings_0 rfl rfl ?_
    refine q_getR hC (by decide) (by decide) rfl w_150 dX10_meanSwings_1 (fun r1 => ?_)
    refine q_aload_n hC 0 dX10_meanSwings_4 rfl rfl ?_
    refine q_getR hC (by decide) (by decide) rfl w_133 dX10_meanSwings_5 (fun r2 => ?_)
    refine q_cVV hC hnt (stk := []) (as := [.ref r2]) sX0_measure (ci := 0) (by decide) rfl nX0_measure rfl w_536 w_538 w_539 w_149 w_537 (Nat.le_of_ble_eq_true rfl) dX10_meanSwings_8 rfl ?_
    refine q_iconst hC dX10_meanSwings_11 rfl ?_
    refine q_istore_nA hC (loc' := [(1, .int 0), (0, .ref x0)]) dX10_meanSwings_12 rfl (Nat.le_of_ble_eq_true rfl) rfl ?_
    refine q_iconst hC dX10_meanSwings_13 rfl ?_
    refine q_istore_nA hC (loc' := [(2, .int 0), (1, .int 0), (0, .ref x0)]) dX10_meanSwings_14 rfl (Nat.le_of_ble_eq_true rfl) rfl ?_
    refine q_iconst hC dX10_meanSwings_15 rfl ?_
    refine q_istore_nA hC (loc' := [(3, .int 0), (2, .int 0), (1, .int 0), (0, .ref x0)]) dX10_meanSwings_16 rfl (Nat.le_of_ble_eq_true rfl) rfl ?_
    exact c_sub [3, 2, 1, 0] rfl (hJ 1 [.ref x0, .int 0, .int 0, .int 0])
  · exact c_no
theorem pX10_meanSwings_1 {Γ : CT} (hC : Ctx Γ "SpiritWall" cX10_meanSwings 4 (some .double) rmX10_meanSwings) (hnt : NT Γ) (J : JT) (hJ : ∀ L a, Cor Γ 4 (lX10_meanSwings L a).1 (lX10_meanSwings L a).2.1 (lX10_meanSwings L a).2.2.1 (lX10_meanSwings L a).2.2.2.1 (lX10_meanSwings L a).2.2.2.2 (J L a)) (a : List Value) : Cor Γ 4 0 0 17 (List.zip [0, 1, 2, 3] a) [] (bX10_meanSwings_1 J a) := by
  unfold bX10_meanSwings_1
  split
  · rename_i x0 x1 x2 x3
    refine c_sub [0, 1, 2, 3] rfl (loc' := [(0, .ref x0), (1, .int x1), (2, .int x2), (3, .int x3)]) ?_
    refine q_iload_n hC 3 dX10_meanSwings_17 rfl rfl ?_
    refine q_aload_n hC 0 dX10_meanSwings_18 rfl rfl ?_
    refine q_getR hC (by decide) (by decide) rfl w_133 dX10_meanSwings_19 (fun r1 => ?_)
    refine q_getI hC (by decide) (by decide) rfl w_560 dX10_meanSwings_22 (fun v2 => ?_)
    refine q_ic_ge hC 62 dX10_meanSwings_25 rfl ?_ ?_
    · refine q_iload_n hC 2 dX10_meanSwings_62 rfl rfl ?_
      refine q_if_ne hC 70 dX10_meanSwings_63 rfl ?_ ?_
      · refine q_iload_n hC 1 dX10_meanSwings_70 rfl rfl ?_
        refine q_i2d hC dX10_meanSwings_71 ?_
        refine q_iload_n hC 2 dX10_meanSwings_72 rfl rfl ?_
        refine q_i2d hC dX10_meanSwings_73 ?_
        refine q_ddiv hC dX10_meanSwings_74 ?_
        exact q_dret hC dX10_meanSwings_75 (Nat.le_of_ble_eq_true rfl) (Nat.le_of_ble_eq_true rfl)
      · refine q_dconst0 hC dX10_meanSwings_66 ?_
        refine q_goto hC 75 dX10_meanSwings_67 rfl ?_
        exact q_dret hC dX10_meanSwings_75 (Nat.le_of_ble_eq_true rfl) (Nat.le_of_ble_eq_true rfl)
    · refine q_aload_n hC 0 dX10_meanSwings_28 rfl rfl ?_
      refine q_getR hC (by decide) (by decide) rfl w_133 dX10_meanSwings_29 (fun r3 => ?_)
      refine q_iload_n hC 3 dX10_meanSwings_32 rfl rfl ?_
      refine q_cVI hC hnt (stk := []) (as := [.int x3]) sX6_counts (ci := 6) (by decide) rfl nX6_counts rfl w_718 w_394 w_395 w_35 w_393 (Nat.le_of_ble_eq_true rfl) dX10_meanSwings_33 rfl (fun v4 => ?_)
      refine q_if_ne hC 42 dX10_meanSwings_36 rfl ?_ ?_
      · refine q_iload_n hC 1 dX10_meanSwings_42 rfl rfl ?_
        refine q_aload_n hC 0 dX10_meanSwings_43 rfl rfl ?_
        refine q_getR hC (by decide) (by decide) rfl w_150 dX10_meanSwings_44 (fun r5 => ?_)
        refine q_iload_n hC 3 dX10_meanSwings_47 rfl rfl ?_
        refine q_cVI hC hnt (stk := [.int x1]) (as := [.int x3]) sX0_swingsOf (ci := 0) (by decide) rfl nX0_swingsOf rfl w_633 w_386 w_387 w_149 w_385 (Nat.le_of_ble_eq_true rfl) dX10_meanSwings_48 rfl (fun v6 => ?_)
        refine q_iadd hC dX10_meanSwings_51 ?_
        refine q_istore_n hC (fun y1_7 => [(1, .int y1_7), (0, .ref x0), (2, .int x2), (3, .int x3)]) dX10_meanSwings_52 rfl (Nat.le_of_ble_eq_true rfl) (fun _ => rfl) (fun y1_7 => ?_)
        refine q_iincA hC (loc' := [(2, .int (x2 + 1)), (1, .int y1_7), (0, .ref x0), (3, .int x3)]) 2 1 dX10_meanSwings_53 rfl rfl (Nat.le_of_ble_eq_true rfl) rfl ?_
        refine q_iincA hC (loc' := [(3, .int (x3 + 1)), (2, .int (x2 + 1)), (1, .int y1_7), (0, .ref x0)]) 3 1 dX10_meanSwings_56 rfl rfl (Nat.le_of_ble_eq_true rfl) rfl ?_
        refine q_goto hC 17 dX10_meanSwings_59 rfl ?_
        exact c_sub [3, 2, 1, 0] rfl (hJ 1 [.ref x0, .int y1_7, .int (x2 + 1), .int (x3 + 1)])
      · refine q_goto hC 56 dX10_meanSwings_39 rfl ?_
        refine q_iincA hC (loc' := [(3, .int (x3 + 1)), (0, .ref x0), (1, .int x1), (2, .int x2)]) 3 1 dX10_meanSwings_56 rfl rfl (Nat.le_of_ble_eq_true rfl) rfl ?_
        refine q_goto hC 17 dX10_meanSwings_59 rfl ?_
        exact c_sub [1, 2, 3, 0] rfl (hJ 1 [.ref x0, .int x1, .int x2, .int (x3 + 1)])
  · exact c_no
theorem sX10_meanSwings : Snd yX10_meanSwings (.code yX10_meanSwings cX10_meanSwings 4 (some .double)) rmX10_meanSwings SX10_meanSwings := by
  refine Snd.of lX10_meanSwings (by decide +kernel) (fun _ => rfl) ?_
  intro Γ hC hnt hnm J hJ L a
  match L with
  | 0 => exact pX10_meanSwings_0 hC hnt J hJ a
  | 1 => exact pX10_meanSwings_1 hC hnt J hJ a
  | L + 2 => exact c_no
/-! SpiritWall.closedShare()F -/
theorem dX10_closedShare_0 : decode cX10_closedShare 0 = .ok (.aload_n 0, 1) := by decide +kernel
theorem dX10_closedShare_1 : decode cX10_closedShare 1 = .ok (.aload_n 0, 1) := by decide +kernel
theorem dX10_closedShare_2 : decode cX10_closedShare 2 = .ok (.getfield 31, 3) := by decide +kernel
theorem dX10_closedShare_5 : decode cX10_closedShare 5 = .ok (.invokevirtual 135, 3) := by decide +kernel
theorem dX10_closedShare_8 : decode cX10_closedShare 8 = .ok (.aload_n 0, 1) := by decide +kernel
theorem dX10_closedShare_9 : decode cX10_closedShare 9 = .ok (.getfield 80, 3) := by decide +kernel
theorem dX10_closedShare_12 : decode cX10_closedShare 12 = .ok (.getfield 150, 3) := by decide +kernel
theorem dX10_closedShare_15 : decode cX10_closedShare 15 = .ok (.ifCond .ne 7, 3) := by decide +kernel
theorem dX10_closedShare_18 : decode cX10_closedShare 18 = .ok (.fconst 1, 1) := by decide +kernel
theorem dX10_closedShare_19 : decode cX10_closedShare 19 = .ok (.goto 20, 3) := by decide +kernel
theorem dX10_closedShare_22 : decode cX10_closedShare 22 = .ok (.aload_n 0, 1) := by decide +kernel
theorem dX10_closedShare_23 : decode cX10_closedShare 23 = .ok (.getfield 80, 3) := by decide +kernel
theorem dX10_closedShare_26 : decode cX10_closedShare 26 = .ok (.getfield 151, 3) := by decide +kernel
theorem dX10_closedShare_29 : decode cX10_closedShare 29 = .ok (.i2f, 1) := by decide +kernel
theorem dX10_closedShare_30 : decode cX10_closedShare 30 = .ok (.aload_n 0, 1) := by decide +kernel
theorem dX10_closedShare_31 : decode cX10_closedShare 31 = .ok (.getfield 80, 3) := by decide +kernel
theorem dX10_closedShare_34 : decode cX10_closedShare 34 = .ok (.getfield 150, 3) := by decide +kernel
theorem dX10_closedShare_37 : decode cX10_closedShare 37 = .ok (.i2f, 1) := by decide +kernel
theorem dX10_closedShare_38 : decode cX10_closedShare 38 = .ok (.fdiv, 1) := by decide +kernel
theorem dX10_closedShare_39 : decode cX10_closedShare 39 = .ok (.freturn, 1) := by decide +kernel
def rmX10_closedShare : Room := rmk 13 0 0 311
theorem nX10_closedShare : nameOk yX10_closedShare 0 = true := by decide +kernel
def bX10_closedShare_0 (J : JT) : List Value → Sem
  | [.ref x0] =>
    gR 10 3 x0 fun r1 =>
    ob 10 x0 (cV SX10_survey [.ref x0, .ref r1] <|
    gR 10 10 x0 fun r2 =>
    gI 4 2 r2 fun v3 =>
    br (v3 = 0)
    (rF FP.fconst1)
    (gR 10 10 x0 fun r4 =>
    gI 4 3 r4 fun v5 =>
    gR 10 10 x0 fun r6 =>
    gI 4 2 r6 fun v7 =>
    nan32 (FP.fdiv (FP.i2f v5) (FP.i2f v7)) <|
    rF (FP.fdiv (FP.i2f v5) (FP.i2f v7))))
  | _ => no
def bX10_closedShare (J : JT) : JT := fun L a => match L with
  | 0 => bX10_closedShare_0 J a
  | _ => no
def SX10_closedShare : ST := mk 1 bX10_closedShare
def lX10_closedShare (L : Nat) (a : List Value) : Nat × Nat × Nat × List (Nat × Value) × List Value := match L with
  | 0 => (0, 0, 0, lv_args 0 a, [])
  | _ => (0, 0, 0, [], [])
theorem pX10_closedShare_0 {Γ : CT} (hC : Ctx Γ "SpiritWall" cX10_closedShare 1 (some .float) rmX10_closedShare) (hnt : NT Γ) (J : JT) (hJ : ∀ L a, Cor Γ 1 (lX10_closedShare L a).1 (lX10_closedShare L a).2.1 (lX10_closedShare L a).2.2.1 (lX10_closedShare L a).2.2.2.1 (lX10_closedShare L a).2.2.2.2 (J L a)) (a : List Value) : Cor Γ 1 0 0 0 (lv_args 0 a) [] (bX10_closedShare_0 J a) := by
  unfold bX10_closedShare_0
  split
  · rename_i x0
    refine c_sub [0] rfl (loc' := [(0, .ref x0)]) ?_
    refine q_aload_n hC 0 dX10_closedShare_0 rfl rfl ?_
    refine q_aload_n hC 0 dX10_closedShare_1 rfl rfl ?_
    refine q_getR hC (by decide) (by decide) rfl w_133 dX10_closedShare_2 (fun r1 => ?_)
    refine q_cVV hC hnt (stk := []) (as := [.ref r1]) sX10_survey (ci := 10) (by decide) rfl nX10_survey rfl w_552 w_554 w_555 w_27 w_553 (Nat.le_of_ble_eq_true rfl) dX10_closedShare_5 rfl ?_
    refine q_aload_n hC 0 dX10_closedShare_8 rfl rfl ?_
    refine q_getR hC (by decide) (by decide) rfl w_160 dX10_closedShare_9 (fun r2 => ?_)
    refine q_getI hC (by decide) (by decide) rfl w_567 dX10_closedShare_12 (fun v3 => ?_)
    refine q_if_ne hC 22 dX10_closedShare_15 rfl ?_ ?_
    · refine q_aload_n hC 0 dX10_closedShare_22 rfl rfl ?_
      refine q_getR hC (by decide) (by decide) rfl w_160 dX10_closedShare_23 (fun r4 => ?_)
      refine q_getI hC (by decide) (by decide) rfl w_568 dX10_closedShare_26 (fun v5 => ?_)
      refine q_i2f hC dX10_closedShare_29 ?_
      refine q_aload_n hC 0 dX10_closedShare_30 rfl rfl ?_
      refine q_getR hC (by decide) (by decide) rfl w_160 dX10_closedShare_31 (fun r6 => ?_)
      refine q_getI hC (by decide) (by decide) rfl w_567 dX10_closedShare_34 (fun v7 => ?_)
      refine q_i2f hC dX10_closedShare_37 ?_
      refine q_fdiv hC dX10_closedShare_38 ?_
      exact q_fret hC dX10_closedShare_39 (Nat.le_of_ble_eq_true rfl) (Nat.le_of_ble_eq_true rfl)
    · refine q_fconst1 hC dX10_closedShare_18 ?_
      refine q_goto hC 39 dX10_closedShare_19 rfl ?_
      exact q_fret hC dX10_closedShare_39 (Nat.le_of_ble_eq_true rfl) (Nat.le_of_ble_eq_true rfl)
  · exact c_no
theorem sX10_closedShare : Snd yX10_closedShare (.code yX10_closedShare cX10_closedShare 1 (some .float)) rmX10_closedShare SX10_closedShare := by
  refine Snd.of lX10_closedShare (by decide +kernel) (fun _ => rfl) ?_
  intro Γ hC hnt hnm J hJ L a
  match L with
  | 0 => exact pX10_closedShare_0 hC hnt J hJ a
  | L + 1 => exact c_no
/-! SpiritWall.tryStrike(II)V -/
theorem dX10_tryStrike_0 : decode cX10_tryStrike 0 = .ok (.aload_n 0, 1) := by decide +kernel
theorem dX10_tryStrike_1 : decode cX10_tryStrike 1 = .ok (.getfield 35, 3) := by decide +kernel
theorem dX10_tryStrike_4 : decode cX10_tryStrike 4 = .ok (.aload_n 0, 1) := by decide +kernel
theorem dX10_tryStrike_5 : decode cX10_tryStrike 5 = .ok (.getfield 31, 3) := by decide +kernel
theorem dX10_tryStrike_8 : decode cX10_tryStrike 8 = .ok (.invokevirtual 126, 3) := by decide +kernel
theorem dX10_tryStrike_11 : decode cX10_tryStrike 11 = .ok (.aload_n 0, 1) := by decide +kernel
theorem dX10_tryStrike_12 : decode cX10_tryStrike 12 = .ok (.getfield 35, 3) := by decide +kernel
theorem dX10_tryStrike_15 : decode cX10_tryStrike 15 = .ok (.getfield 239, 3) := by decide +kernel
theorem dX10_tryStrike_18 : decode cX10_tryStrike 18 = .ok (.iload_n 1, 1) := by decide +kernel
theorem dX10_tryStrike_19 : decode cX10_tryStrike 19 = .ok (.iload_n 2, 1) := by decide +kernel
theorem dX10_tryStrike_20 : decode cX10_tryStrike 20 = .ok (.invokestatic 373, 3) := by decide +kernel
theorem dX10_tryStrike_23 : decode cX10_tryStrike 23 = .ok (.return_, 1) := by decide +kernel
def rmX10_tryStrike : Room := rmk 8 0 0 193
theorem nX10_tryStrike : nameOk yX10_tryStrike 2 = true := by decide +kernel
def bX10_tryStrike_0 (J : JT) : List Value → Sem
  | [.ref x0, .int x1, .int x2] =>
    gR 10 4 x0 fun r1 =>
    gR 10 3 x0 fun r2 =>
    ob 6 r1 (cV SX6_copyFrom [.ref r1, .ref r2] <|
    gR 10 4 x0 fun r3 =>
    gR 6 12 r3 fun r4 =>
    cV SX10_put [.ref r4, .int x1, .int x2] <|
    rV)
  | _ => no
def bX10_tryStrike (J : JT) : JT := fun L a => match L with
  | 0 => bX10_tryStrike_0 J a
  | _ => no
def SX10_tryStrike : ST := mk 3 bX10_tryStrike
def lX10_tryStrike (L : Nat) (a : List Value) : Nat × Nat × Nat × List (Nat × Value) × List Value := match L with
  | 0 => (0, 0, 0, lv_args 0 a, [])
  | _ => (0, 0, 0, [], [])
theorem pX10_tryStrike_0 {Γ : CT} (hC : Ctx Γ "SpiritWall" cX10_tryStrike 3 none rmX10_tryStrike) (hnt : NT Γ) (J : JT) (hJ : ∀ L a, Cor Γ 3 (lX10_tryStrike L a).1 (lX10_tryStrike L a).2.1 (lX10_tryStrike L a).2.2.1 (lX10_tryStrike L a).2.2.2.1 (lX10_tryStrike L a).2.2.2.2 (J L a)) (a : List Value) : Cor Γ 3 0 0 0 (lv_args 0 a) [] (bX10_tryStrike_0 J a) := by
  unfold bX10_tryStrike_0
  split
  · rename_i x0 x1 x2
    refine c_sub [0, 1, 2] rfl (loc' := [(0, .ref x0), (1, .int x1), (2, .int x2)]) ?_
    refine q_aload_n hC 0 dX10_tryStrike_0 rfl rfl ?_
    refine q_getR hC (by decide) (by decide) rfl w_134 dX10_tryStrike_1 (fun r1 => ?_)
    refine q_aload_n hC 0 dX10_tryStrike_4 rfl rfl ?_
    refine q_getR hC (by decide) (by decide) rfl w_133 dX10_tryStrike_5 (fun r2 => ?_)
    refine q_cVV hC hnt (stk := []) (as := [.ref r2]) sX6_copyFrom (ci := 6) (by decide) rfl nX6_copyFrom rfl w_341 w_343 w_344 w_35 w_342 (Nat.le_of_ble_eq_true rfl) dX10_tryStrike_8 rfl ?_
    refine q_aload_n hC 0 dX10_tryStrike_11 rfl rfl ?_
    refine q_getR hC (by decide) (by decide) rfl w_134 dX10_tryStrike_12 (fun r3 => ?_)
    refine q_getR hC (by decide) (by decide) rfl w_632 dX10_tryStrike_15 (fun r4 => ?_)
    refine q_iload_n hC 1 dX10_tryStrike_18 rfl rfl ?_
    refine q_iload_n hC 2 dX10_tryStrike_19 rfl rfl ?_
    refine q_cSV hC hnt (stk := []) (as := [.ref r4, .int x1, .int x2]) sX10_put nX10_put rfl w_409 w_187 w_27 w_186 (Nat.le_of_ble_eq_true rfl) dX10_tryStrike_20 rfl ?_
    exact q_vret hC dX10_tryStrike_23 (Nat.le_of_ble_eq_true rfl) (Nat.le_of_ble_eq_true rfl)
  · exact c_no
theorem sX10_tryStrike : Snd yX10_tryStrike (.code yX10_tryStrike cX10_tryStrike 3 none) rmX10_tryStrike SX10_tryStrike := by
  refine Snd.of lX10_tryStrike (by decide +kernel) (fun _ => rfl) ?_
  intro Γ hC hnt hnm J hJ L a
  match L with
  | 0 => exact pX10_tryStrike_0 hC hnt J hJ a
  | L + 1 => exact c_no
/-! SpiritWall.closedIf(I)I -/
theorem dX10_closedIf_0 : decode cX10_closedIf 0 = .ok (.aload_n 0, 1) := by decide +kernel
theorem dX10_closedIf_1 : decode cX10_closedIf 1 = .ok (.iload_n 1, 1) := by decide +kernel
theorem dX10_closedIf_2 : decode cX10_closedIf 2 = .ok (.invokevirtual 221, 3) := by decide +kernel
theorem dX10_closedIf_5 : decode cX10_closedIf 5 = .ok (.aload_n 0, 1) := by decide +kernel
theorem dX10_closedIf_6 : decode cX10_closedIf 6 = .ok (.iload_n 1, 1) := by decide +kernel
theorem dX10_closedIf_7 : decode cX10_closedIf 7 = .ok (.iconst 1, 1) := by decide +kernel
theorem dX10_closedIf_8 : decode cX10_closedIf 8 = .ok (.aload_n 0, 1) := by decide +kernel
theorem dX10_closedIf_9 : decode cX10_closedIf 9 = .ok (.getfield 31, 3) := by decide +kernel
theorem dX10_closedIf_12 : decode cX10_closedIf 12 = .ok (.getfield 239, 3) := by decide +kernel
theorem dX10_closedIf_15 : decode cX10_closedIf 15 = .ok (.iload_n 1, 1) := by decide +kernel
theorem dX10_closedIf_16 : decode cX10_closedIf 16 = .ok (.invokestatic 190, 3) := by decide +kernel
theorem dX10_closedIf_19 : decode cX10_closedIf 19 = .ok (.isub, 1) := by decide +kernel
theorem dX10_closedIf_20 : decode cX10_closedIf 20 = .ok (.invokevirtual 343, 3) := by decide +kernel
theorem dX10_closedIf_23 : decode cX10_closedIf 23 = .ok (.aload_n 0, 1) := by decide +kernel
theorem dX10_closedIf_24 : decode cX10_closedIf 24 = .ok (.aload_n 0, 1) := by decide +kernel
theorem dX10_closedIf_25 : decode cX10_closedIf 25 = .ok (.getfield 35, 3) := by decide +kernel
theorem dX10_closedIf_28 : decode cX10_closedIf 28 = .ok (.invokevirtual 135, 3) := by decide +kernel
theorem dX10_closedIf_31 : decode cX10_closedIf 31 = .ok (.aload_n 0, 1) := by decide +kernel
theorem dX10_closedIf_32 : decode cX10_closedIf 32 = .ok (.getfield 80, 3) := by decide +kernel
theorem dX10_closedIf_35 : decode cX10_closedIf 35 = .ok (.getfield 151, 3) := by decide +kernel
theorem dX10_closedIf_38 : decode cX10_closedIf 38 = .ok (.ireturn, 1) := by decide +kernel
def rmX10_closedIf : Room := rmk 13 1 6 311
theorem nX10_closedIf : nameOk yX10_closedIf 1 = true := by decide +kernel
def bX10_closedIf_0 (J : JT) : List Value → Sem
  | [.ref x0, .int x1] =>
    ob 10 x0 (cV SX10_needSight [.ref x0, .int x1] <|
    gR 10 3 x0 fun r1 =>
    gR 6 12 r1 fun r2 =>
    cI SX10_cell [.ref r2, .int x1] fun v3 =>
    ob 10 x0 (cV SX10_tryStrike [.ref x0, .int x1, .int (1 - v3)] <|
    gR 10 4 x0 fun r4 =>
    ob 10 x0 (cV SX10_survey [.ref x0, .ref r4] <|
    gR 10 10 x0 fun r5 =>
    gI 4 3 r5 fun v6 =>
    rI v6)))
  | _ => no
def bX10_closedIf (J : JT) : JT := fun L a => match L with
  | 0 => bX10_closedIf_0 J a
  | _ => no
def SX10_closedIf : ST := mk 2 bX10_closedIf
def lX10_closedIf (L : Nat) (a : List Value) : Nat × Nat × Nat × List (Nat × Value) × List Value := match L with
  | 0 => (0, 0, 0, lv_args 0 a, [])
  | _ => (0, 0, 0, [], [])
theorem pX10_closedIf_0 {Γ : CT} (hC : Ctx Γ "SpiritWall" cX10_closedIf 2 (some .int) rmX10_closedIf) (hnt : NT Γ) (J : JT) (hJ : ∀ L a, Cor Γ 2 (lX10_closedIf L a).1 (lX10_closedIf L a).2.1 (lX10_closedIf L a).2.2.1 (lX10_closedIf L a).2.2.2.1 (lX10_closedIf L a).2.2.2.2 (J L a)) (a : List Value) : Cor Γ 2 0 0 0 (lv_args 0 a) [] (bX10_closedIf_0 J a) := by
  unfold bX10_closedIf_0
  split
  · rename_i x0 x1
    refine c_sub [0, 1] rfl (loc' := [(0, .ref x0), (1, .int x1)]) ?_
    refine q_aload_n hC 0 dX10_closedIf_0 rfl rfl ?_
    refine q_iload_n hC 1 dX10_closedIf_1 rfl rfl ?_
    refine q_cVV hC hnt (stk := []) (as := [.int x1]) sX10_needSight (ci := 10) (by decide) rfl nX10_needSight rfl w_623 w_625 w_626 w_27 w_624 (Nat.le_of_ble_eq_true rfl) dX10_closedIf_2 rfl ?_
    refine q_aload_n hC 0 dX10_closedIf_5 rfl rfl ?_
    refine q_iload_n hC 1 dX10_closedIf_6 rfl rfl ?_
    refine q_iconst hC dX10_closedIf_7 rfl ?_
    refine q_aload_n hC 0 dX10_closedIf_8 rfl rfl ?_
    refine q_getR hC (by decide) (by decide) rfl w_133 dX10_closedIf_9 (fun r1 => ?_)
    refine q_getR hC (by decide) (by decide) rfl w_632 dX10_closedIf_12 (fun r2 => ?_)
    refine q_iload_n hC 1 dX10_closedIf_15 rfl rfl ?_
    refine q_cSI hC hnt (stk := [.int 1, .int x1, .ref x0]) (as := [.ref r2, .int x1]) sX10_cell nX10_cell rfl w_408 w_202 w_27 w_201 (Nat.le_of_ble_eq_true rfl) dX10_closedIf_16 rfl (fun v3 => ?_)
    refine q_isub hC dX10_closedIf_19 ?_
    refine q_cVV hC hnt (stk := []) (as := [.int x1, .int (1 - v3)]) sX10_tryStrike (ci := 10) (by decide) rfl nX10_tryStrike rfl w_719 w_721 w_722 w_27 w_720 (Nat.le_of_ble_eq_true rfl) dX10_closedIf_20 rfl ?_
    refine q_aload_n hC 0 dX10_closedIf_23 rfl rfl ?_
    refine q_aload_n hC 0 dX10_closedIf_24 rfl rfl ?_
    refine q_getR hC (by decide) (by decide) rfl w_134 dX10_closedIf_25 (fun r4 => ?_)
    refine q_cVV hC hnt (stk := []) (as := [.ref r4]) sX10_survey (ci := 10) (by decide) rfl nX10_survey rfl w_552 w_554 w_555 w_27 w_553 (Nat.le_of_ble_eq_true rfl) dX10_closedIf_28 rfl ?_
    refine q_aload_n hC 0 dX10_closedIf_31 rfl rfl ?_
    refine q_getR hC (by decide) (by decide) rfl w_160 dX10_closedIf_32 (fun r5 => ?_)
    refine q_getI hC (by decide) (by decide) rfl w_568 dX10_closedIf_35 (fun v6 => ?_)
    exact q_iret hC dX10_closedIf_38 (Nat.le_of_ble_eq_true rfl) (Nat.le_of_ble_eq_true rfl)
  · exact c_no
theorem sX10_closedIf : Snd yX10_closedIf (.code yX10_closedIf cX10_closedIf 2 (some .int)) rmX10_closedIf SX10_closedIf := by
  refine Snd.of lX10_closedIf (by decide +kernel) (fun _ => rfl) ?_
  intro Γ hC hnt hnm J hJ L a
  match L with
  | 0 => exact pX10_closedIf_0 hC hnt J hJ a
  | L + 1 => exact c_no
/-! SpiritWall.bestStrike()I -/
theorem dX10_bestStrike_0 : decode cX10_bestStrike 0 = .ok (.iconst (-1), 1) := by decide +kernel
theorem dX10_bestStrike_1 : decode cX10_bestStrike 1 = .ok (.istore_n 1, 1) := by decide +kernel
theorem dX10_bestStrike_2 : decode cX10_bestStrike 2 = .ok (.iconst 0, 1) := by decide +kernel
theorem dX10_bestStrike_3 : decode cX10_bestStrike 3 = .ok (.istore_n 2, 1) := by decide +kernel
theorem dX10_bestStrike_4 : decode cX10_bestStrike 4 = .ok (.iconst 0, 1) := by decide +kernel
theorem dX10_bestStrike_5 : decode cX10_bestStrike 5 = .ok (.istore_n 3, 1) := by decide +kernel
theorem dX10_bestStrike_6 : decode cX10_bestStrike 6 = .ok (.iload_n 3, 1) := by decide +kernel
theorem dX10_bestStrike_7 : decode cX10_bestStrike 7 = .ok (.aload_n 0, 1) := by decide +kernel
theorem dX10_bestStrike_8 : decode cX10_bestStrike 8 = .ok (.getfield 31, 3) := by decide +kernel
theorem dX10_bestStrike_11 : decode cX10_bestStrike 11 = .ok (.getfield 142, 3) := by decide +kernel
theorem dX10_bestStrike_14 : decode cX10_bestStrike 14 = .ok (.if_icmp .ge 70, 3) := by decide +kernel
theorem dX10_bestStrike_17 : decode cX10_bestStrike 17 = .ok (.aload_n 0, 1) := by decide +kernel
theorem dX10_bestStrike_18 : decode cX10_bestStrike 18 = .ok (.getfield 31, 3) := by decide +kernel
theorem dX10_bestStrike_21 : decode cX10_bestStrike 21 = .ok (.iload_n 3, 1) := by decide +kernel
theorem dX10_bestStrike_22 : decode cX10_bestStrike 22 = .ok (.invokevirtual 340, 3) := by decide +kernel
theorem dX10_bestStrike_25 : decode cX10_bestStrike 25 = .ok (.ifCond .ne 6, 3) := by decide +kernel
theorem dX10_bestStrike_28 : decode cX10_bestStrike 28 = .ok (.goto 50, 3) := by decide +kernel
theorem dX10_bestStrike_31 : decode cX10_bestStrike 31 = .ok (.aload_n 0, 1) := by decide +kernel
theorem dX10_bestStrike_32 : decode cX10_bestStrike 32 = .ok (.iload_n 3, 1) := by decide +kernel
theorem dX10_bestStrike_33 : decode cX10_bestStrike 33 = .ok (.iconst 1, 1) := by decide +kernel
theorem dX10_bestStrike_34 : decode cX10_bestStrike 34 = .ok (.invokevirtual 343, 3) := by decide +kernel
theorem dX10_bestStrike_37 : decode cX10_bestStrike 37 = .ok (.aload_n 0, 1) := by decide +kernel
theorem dX10_bestStrike_38 : decode cX10_bestStrike 38 = .ok (.aload_n 0, 1) := by decide +kernel
theorem dX10_bestStrike_39 : decode cX10_bestStrike 39 = .ok (.getfield 35, 3) := by decide +kernel
theorem dX10_bestStrike_42 : decode cX10_bestStrike 42 = .ok (.invokevirtual 135, 3) := by decide +kernel
theorem dX10_bestStrike_45 : decode cX10_bestStrike 45 = .ok (.aload_n 0, 1) := by decide +kernel
theorem dX10_bestStrike_46 : decode cX10_bestStrike 46 = .ok (.getfield 80, 3) := by decide +kernel
theorem dX10_bestStrike_49 : decode cX10_bestStrike 49 = .ok (.getfield 150, 3) := by decide +kernel
theorem dX10_bestStrike_52 : decode cX10_bestStrike 52 = .ok (.aload_n 0, 1) := by decide +kernel
theorem dX10_bestStrike_53 : decode cX10_bestStrike 53 = .ok (.getfield 80, 3) := by decide +kernel
theorem dX10_bestStrike_56 : decode cX10_bestStrike 56 = .ok (.getfield 151, 3) := by decide +kernel
theorem dX10_bestStrike_59 : decode cX10_bestStrike 59 = .ok (.isub, 1) := by decide +kernel
theorem dX10_bestStrike_60 : decode cX10_bestStrike 60 = .ok (.istore 4, 2) := by decide +kernel
theorem dX10_bestStrike_62 : decode cX10_bestStrike 62 = .ok (.iload_n 1, 1) := by decide +kernel
theorem dX10_bestStrike_63 : decode cX10_bestStrike 63 = .ok (.iconst (-1), 1) := by decide +kernel
theorem dX10_bestStrike_64 : decode cX10_bestStrike 64 = .ok (.if_icmp .eq 9, 3) := by decide +kernel
theorem dX10_bestStrike_67 : decode cX10_bestStrike 67 = .ok (.iload 4, 2) := by decide +kernel
theorem dX10_bestStrike_69 : decode cX10_bestStrike 69 = .ok (.iload_n 2, 1) := by decide +kernel
theorem dX10_bestStrike_70 : decode cX10_bestStrike 70 = .ok (.if_icmp .ge 8, 3) := by decide +kernel
theorem dX10_bestStrike_73 : decode cX10_bestStrike 73 = .ok (.iload_n 3, 1) := by decide +kernel
theorem dX10_bestStrike_74 : decode cX10_bestStrike 74 = .ok (.istore_n 1, 1) := by decide +kernel
theorem dX10_bestStrike_75 : decode cX10_bestStrike 75 = .ok (.iload 4, 2) := by decide +kernel
theorem dX10_bestStrike_77 : decode cX10_bestStrike 77 = .ok (.istore_n 2, 1) := by decide +kernel
theorem dX10_bestStrike_78 : decode cX10_bestStrike 78 = .ok (.iinc 3 1, 3) := by decide +kernel
theorem dX10_bestStrike_81 : decode cX10_bestStrike 81 = .ok (.goto (-75), 3) := by decide +kernel
theorem dX10_bestStrike_84 : decode cX10_bestStrike 84 = .ok (.iload_n 1, 1) := by decide +kernel
theorem dX10_bestStrike_85 : decode cX10_bestStrike 85 = .ok (.ireturn, 1) := by decide +kernel
def rmX10_bestStrike : Room := rmk 13 0 0 311
theorem nX10_bestStrike : nameOk yX10_bestStrike 0 = true := by decide +kernel
def bX10_bestStrike_0 (J : JT) : List Value → Sem
  | [.ref x0] =>
    J 1 [.ref x0, .int (-1), .int 0, .int 0]
  | _ => no
def bX10_bestStrike_1 (J : JT) : List Value → Sem
  | [.ref x0, .int x1, .int x2, .int x3] =>
    gR 10 3 x0 fun r1 =>
    gI 6 6 r1 fun v2 =>
    br (v2 ≤ x3)
    (rI x1)
    (gR 10 3 x0 fun r3 =>
    ob 6 r3 (cI SX6_counts [.ref r3, .int x3] fun v4 =>
    br (v4 = 0)
    (J 1 [.ref x0, .int x1, .int x2, .int (x3 + 1)])
    (ob 10 x0 (cV SX10_tryStrike [.ref x0, .int x3, .int 1] <|
    gR 10 4 x0 fun r5 =>
    ob 10 x0 (cV SX10_survey [.ref x0, .ref r5] <|
    gR 10 10 x0 fun r6 =>
    gI 4 2 r6 fun v7 =>
    gR 10 10 x0 fun r8 =>
    gI 4 3 r8 fun v9 =>
    lI (v7 - v9) fun y4_10 =>
    br (x1 = ((-1) : Int32))
    (J 1 [.ref x0, .int x3, .int y4_10, .int (x3 + 1)])
    (br (x2 ≤ y4_10)
    (J 1 [.ref x0, .int x1, .int x2, .int (x3 + 1)])
    (J 1 [.ref x0, .int x3, .int y4_10, .int (x3 + 1)])))))))
  | _ => no
def bX10_bestStrike (J : JT) : JT := fun L a => match L with
  | 0 => bX10_bestStrike_0 J a
  | 1 => bX10_bestStrike_1 J a
  | _ => no
def SX10_bestStrike : ST := mk 5 bX10_bestStrike
def lX10_bestStrike (L : Nat) (a : List Value) : Nat × Nat × Nat × List (Nat × Value) × List Value := match L with
  | 0 => (0, 0, 0, lv_args 0 a, [])
  | 1 => (0, 0, 6, List.zip [0, 1, 2, 3] a, [])
  | _ => (0, 0, 0, [], [])
theorem pX10_bestStrike_0 {Γ : CT} (hC : Ctx Γ "SpiritWall" cX10_bestStrike 5 (some .int) rmX10_bestStrike) (hnt : NT Γ) (J : JT) (hJ : ∀ L a, Cor Γ 5 (lX10_bestStrike L a).1 (lX10_bestStrike L a).2.1 (lX10_bestStrike L a).2.2.1 (lX10_bestStrike L a).2.2.2.1 (lX10_bestStrike L a).2.2.2.2 (J L a)) (a : List Value) : Cor Γ 5 0 0 0 (lv_args 0 a) [] (bX10_bestStrike_0 J a) := by
  unfold bX10_bestStrike_0
  split
  · rename_i x0
    refine c_sub [0] rfl (loc' := [(0, .ref x0)]) ?_
    refine q_iconst hC dX10_bestStrike_0 rfl ?_
    refine q_istore_nA hC (loc' := [(1, .int (-1)), (0, .ref x0)]) dX10_bestStrike_1 rfl (Nat.le_of_ble_eq_true rfl) rfl ?_
    refine q_iconst hC dX10_bestStrike_2 rfl ?_
    refine q_istore_nA hC (loc' := [(2, .int 0), (1, .int (-1)), (0, .ref x0)]) dX10_bestStrike_3 rfl (Nat.le_of_ble_eq_true rfl) rfl ?_
    refine q_iconst hC dX10_bestStrike_4 rfl ?_
    refine q_istore_nA hC (loc' := [(3, .int 0), (2, .int 0), (1, .int (-1)), (0, .ref x0)]) dX10_bestStrike_5 rfl (Nat.le_of_ble_eq_true rfl) rfl ?_
    exact c_sub [3, 2, 1, 0] rfl (hJ 1 [.ref x0, .int (-1), .int 0, .int 0])
  · exact c_no
theorem pX10_bestStrike_1 {Γ : CT} (hC : Ctx Γ "SpiritWall" cX10_bestStrike 5 (some .int) rmX10_bestStrike) (hnt : NT Γ) (J : JT) (hJ : ∀ L a, Cor Γ 5 (lX10_bestStrike L a).1 (lX10_bestStrike L a).2.1 (lX10_bestStrike L a).2.2.1 (lX10_bestStrike L a).2.2.2.1 (lX10_bestStrike L a).2.2.2.2 (J L a)) (a : List Value) : Cor Γ 5 0 0 6 (List.zip [0, 1, 2, 3] a) [] (bX10_bestStrike_1 J a) := by
  unfold bX10_bestStrike_1
  split
  · rename_i x0 x1 x2 x3
    refine c_sub [0, 1, 2, 3] rfl (loc' := [(0, .ref x0), (1, .int x1), (2, .int x2), (3, .int x3)]) ?_
    refine q_iload_n hC 3 dX10_bestStrike_6 rfl rfl ?_
    refine q_aload_n hC 0 dX10_bestStrike_7 rfl rfl ?_
    refine q_getR hC (by decide) (by decide) rfl w_133 dX10_bestStrike_8 (fun r1 => ?_)
    refine q_getI hC (by decide) (by decide) rfl w_560 dX10_bestStrike_11 (fun v2 => ?_)
    refine q_ic_ge hC 84 dX10_bestStrike_14 rfl ?_ ?_
    · refine q_iload_n hC 1 dX10_bestStrike_84 rfl rfl ?_
      exact q_iret hC dX10_bestStrike_85 (Nat.le_of_ble_eq_true rfl) (Nat.le_of_ble_eq_true rfl)
    · refine q_aload_n hC 0 dX10_bestStrike_17 rfl rfl ?_
      refine q_getR hC (by decide) (by decide) rfl w_133 dX10_bestStrike_18 (fun r3 => ?_)
      refine q_iload_n hC 3 dX10_bestStrike_21 rfl rfl ?_
      refine q_cVI hC hnt (stk := []) (as := [.int x3]) sX6_counts (ci := 6) (by decide) rfl nX6_counts rfl w_718 w_394 w_395 w_35 w_393 (Nat.le_of_ble_eq_true rfl) dX10_bestStrike_22 rfl (fun v4 => ?_)
      refine q_if_ne hC 31 dX10_bestStrike_25 rfl ?_ ?_
      · refine q_aload_n hC 0 dX10_bestStrike_31 rfl rfl ?_
        refine q_iload_n hC 3 dX10_bestStrike_32 rfl rfl ?_
        refine q_iconst hC dX10_bestStrike_33 rfl ?_
        refine q_cVV hC hnt (stk := []) (as := [.int x3, .int 1]) sX10_tryStrike (ci := 10) (by decide) rfl nX10_tryStrike rfl w_719 w_721 w_722 w_27 w_720 (Nat.le_of_ble_eq_true rfl) dX10_bestStrike_34 rfl ?_
        refine q_aload_n hC 0 dX10_bestStrike_37 rfl rfl ?_
        refine q_aload_n hC 0 dX10_bestStrike_38 rfl rfl ?_
        refine q_getR hC (by decide) (by decide) rfl w_134 dX10_bestStrike_39 (fun r5 => ?_)
        refine q_cVV hC hnt (stk := []) (as := [.ref r5]) sX10_survey (ci := 10) (by decide) rfl nX10_survey rfl w_552 w_554 w_555 w_27 w_553 (Nat.le_of_ble_eq_true rfl) dX10_bestStrike_42 rfl ?_
        refine q_aload_n hC 0 dX10_bestStrike_45 rfl rfl ?_
        refine q_getR hC (by decide) (by decide) rfl w_160 dX10_bestStrike_46 (fun r6 => ?_)
        refine q_getI hC (by decide) (by decide) rfl w_567 dX10_bestStrike_49 (fun v7 => ?_)
        refine q_aload_n hC 0 dX10_bestStrike_52 rfl rfl ?_
        refine q_getR hC (by decide) (by decide) rfl w_160 dX10_bestStrike_53 (fun r8 => ?_)
        refine q_getI hC (by decide) (by decide) rfl w_568 dX10_bestStrike_56 (fun v9 => ?_)
        refine q_isub hC dX10_bestStrike_59 ?_
        refine q_istore hC (fun y4_10 => [(4, .int y4_10), (0, .ref x0), (1, .int x1), (2, .int x2), (3, .int x3)]) dX10_bestStrike_60 (Nat.le_of_ble_eq_true rfl) (fun _ => rfl) (fun y4_10 => ?_)
        refine q_iload_n hC 2 dX10_bestStrike_62 rfl rfl ?_
        refine q_iconst hC dX10_bestStrike_63 rfl ?_
        refine q_ic_eq hC 73 dX10_bestStrike_64 rfl ?_ ?_
        · refine q_iload_n hC 4 dX10_bestStrike_73 rfl rfl ?_
          refine q_istore_nA hC (loc' := [(1, .int x3), (4, .int y4_10), (0, .ref x0), (2, .int x2), (3, .int x3)]) dX10_bestStrike_74 rfl (Nat.le_of_ble_eq_true rfl) rfl ?_
          refine q_iload hC 1 dX10_bestStrike_75 rfl ?_
          refine q_istore_nA hC (loc' := [(2, .int y4_10), (1, .int x3), (4, .int y4_10), (0, .ref x0), (3, .int x3)]) dX10_bestStrike_77 rfl (Nat.le_of_ble_eq_true rfl) rfl ?_
          refine q_iincA hC (loc' := [(3, .int (x3 + 1)), (2, .int y4_10), (1, .int x3), (4, .int y4_10), (0, .ref x0)]) 4 1 dX10_bestStrike_78 rfl rfl (Nat.le_of_ble_eq_true rfl) rfl ?_
          refine q_goto hC 6 dX10_bestStrike_81 rfl ?_
          exact c_sub [4, 2, 1, 0] rfl (hJ 1 [.ref x0, .int x3, .int y4_10, .int (x3 + 1)])
        · refine q_iload hC 0 dX10_bestStrike_67 rfl ?_
          refine q_iload_n hC 3 dX10_bestStrike_69 rfl rfl ?_
          refine q_ic_ge hC 78 dX10_bestStrike_70 rfl ?_ ?_
          · refine q_iincA hC (loc' := [(3, .int (x3 + 1)), (4, .int y4_10), (0, .ref x0), (1, .int x1), (2, .int x2)]) 4 1 dX10_bestStrike_78 rfl rfl (Nat.le_of_ble_eq_true rfl) rfl ?_
            refine q_goto hC 6 dX10_bestStrike_81 rfl ?_
            exact c_sub [2, 3, 4, 0] rfl (hJ 1 [.ref x0, .int x1, .int x2, .int (x3 + 1)])
          · refine q_iload_n hC 4 dX10_bestStrike_73 rfl rfl ?_
            refine q_istore_nA hC (loc' := [(1, .int x3), (4, .int y4_10), (0, .ref x0), (2, .int x2), (3, .int x3)]) dX10_bestStrike_74 rfl (Nat.le_of_ble_eq_true rfl) rfl ?_
            refine q_iload hC 1 dX10_bestStrike_75 rfl ?_
            refine q_istore_nA hC (loc' := [(2, .int y4_10), (1, .int x3), (4, .int y4_10), (0, .ref x0), (3, .int x3)]) dX10_bestStrike_77 rfl (Nat.le_of_ble_eq_true rfl) rfl ?_
            refine q_iincA hC (loc' := [(3, .int (x3 + 1)), (2, .int y4_10), (1, .int x3), (4, .int y4_10), (0, .ref x0)]) 4 1 dX10_bestStrike_78 rfl rfl (Nat.le_of_ble_eq_true rfl) rfl ?_
            refine q_goto hC 6 dX10_bestStrike_81 rfl ?_
            exact c_sub [4, 2, 1, 0] rfl (hJ 1 [.ref x0, .int x3, .int y4_10, .int (x3 + 1)])
      · refine q_goto hC 78 dX10_bestStrike_28 rfl ?_
        refine q_iincA hC (loc' := [(3, .int (x3 + 1)), (0, .ref x0), (1, .int x1), (2, .int x2)]) 3 1 dX10_bestStrike_78 rfl rfl (Nat.le_of_ble_eq_true rfl) rfl ?_
        refine q_goto hC 6 dX10_bestStrike_81 rfl ?_
        exact c_sub [1, 2, 3, 0] rfl (hJ 1 [.ref x0, .int x1, .int x2, .int (x3 + 1)])
  · exact c_no
theorem sX10_bestStrike : Snd yX10_bestStrike (.code yX10_bestStrike cX10_bestStrike 5 (some .int)) rmX10_bestStrike SX10_bestStrike := by
  refine Snd.of lX10_bestStrike (by decide +kernel) (fun _ => rfl) ?_
  intro Γ hC hnt hnm J hJ L a
  match L with
  | 0 => exact pX10_bestStrike_0 hC hnt J hJ a
  | 1 => exact pX10_bestStrike_1 hC hnt J hJ a
  | L + 2 => exact c_no
/-! SpiritWall.needSettingRange(II)V -/
theorem dX10_needSettingRange_0 : decode cX10_needSettingRange 0 = .ok (.iload_n 1, 1) := by decide +kernel
theorem dX10_needSettingRange_1 : decode cX10_needSettingRange 1 = .ok (.getstatic 446, 3) := by decide +kernel
theorem dX10_needSettingRange_4 : decode cX10_needSettingRange 4 = .ok (.iload_n 0, 1) := by decide +kernel
theorem dX10_needSettingRange_5 : decode cX10_needSettingRange 5 = .ok (.invokestatic 190, 3) := by decide +kernel
theorem dX10_needSettingRange_8 : decode cX10_needSettingRange 8 = .ok (.getstatic 449, 3) := by decide +kernel
theorem dX10_needSettingRange_11 : decode cX10_needSettingRange 11 = .ok (.iload_n 0, 1) := by decide +kernel
theorem dX10_needSettingRange_12 : decode cX10_needSettingRange 12 = .ok (.invokestatic 190, 3) := by decide +kernel
theorem dX10_needSettingRange_15 : decode cX10_needSettingRange 15 = .ok (.invokestatic 260, 3) := by decide +kernel
theorem dX10_needSettingRange_18 : decode cX10_needSettingRange 18 = .ok (.return_, 1) := by decide +kernel
def rmX10_needSettingRange : Room := rmk 7 1 6 172
theorem nX10_needSettingRange : nameOk yX10_needSettingRange 2 = true := by decide +kernel
def bX10_needSettingRange_0 (J : JT) : List Value → Sem
  | [.int x0, .int x1] =>
    cI SX10_cell [.ref 1000, .int x0] fun v1 =>
    cI SX10_cell [.ref 1001, .int x0] fun v2 =>
    cV SX10_needRange [.int x1, .int v1, .int v2] <|
    rV
  | _ => no
def bX10_needSettingRange (J : JT) : JT := fun L a => match L with
  | 0 => bX10_needSettingRange_0 J a
  | _ => no
def SX10_needSettingRange : ST := mk 2 bX10_needSettingRange
def lX10_needSettingRange (L : Nat) (a : List Value) : Nat × Nat × Nat × List (Nat × Value) × List Value := match L with
  | 0 => (0, 0, 0, lv_args 0 a, [])
  | _ => (0, 0, 0, [], [])
theorem pX10_needSettingRange_0 {Γ : CT} (hC : Ctx Γ "SpiritWall" cX10_needSettingRange 2 none rmX10_needSettingRange) (hnt : NT Γ) (J : JT) (hJ : ∀ L a, Cor Γ 2 (lX10_needSettingRange L a).1 (lX10_needSettingRange L a).2.1 (lX10_needSettingRange L a).2.2.1 (lX10_needSettingRange L a).2.2.2.1 (lX10_needSettingRange L a).2.2.2.2 (J L a)) (a : List Value) : Cor Γ 2 0 0 0 (lv_args 0 a) [] (bX10_needSettingRange_0 J a) := by
  unfold bX10_needSettingRange_0
  split
  · rename_i x0 x1
    refine c_sub [0, 1] rfl (loc' := [(0, .int x0), (1, .int x1)]) ?_
    refine q_iload_n hC 1 dX10_needSettingRange_0 rfl rfl ?_
    refine q_gets hC (i := 0) (by decide) w_723 dX10_needSettingRange_1 ?_
    refine q_iload_n hC 0 dX10_needSettingRange_4 rfl rfl ?_
    refine q_cSI hC hnt (stk := [.int x1]) (as := [.ref 1000, .int x0]) sX10_cell nX10_cell rfl w_408 w_202 w_27 w_201 (Nat.le_of_ble_eq_true rfl) dX10_needSettingRange_5 rfl (fun v1 => ?_)
    refine q_gets hC (i := 1) (by decide) w_724 dX10_needSettingRange_8 ?_
    refine q_iload_n hC 0 dX10_needSettingRange_11 rfl rfl ?_
    refine q_cSI hC hnt (stk := [.int v1, .int x1]) (as := [.ref 1001, .int x0]) sX10_cell nX10_cell rfl w_408 w_202 w_27 w_201 (Nat.le_of_ble_eq_true rfl) dX10_needSettingRange_12 rfl (fun v2 => ?_)
    refine q_cSV hC hnt (stk := []) (as := [.int x1, .int v1, .int v2]) sX10_needRange nX10_needRange rfl w_643 w_645 w_27 w_644 (Nat.le_of_ble_eq_true rfl) dX10_needSettingRange_15 rfl ?_
    exact q_vret hC dX10_needSettingRange_18 (Nat.le_of_ble_eq_true rfl) (Nat.le_of_ble_eq_true rfl)
  · exact c_no
theorem sX10_needSettingRange : Snd yX10_needSettingRange (.code yX10_needSettingRange cX10_needSettingRange 2 none) rmX10_needSettingRange SX10_needSettingRange := by
  refine Snd.of lX10_needSettingRange (by decide +kernel) (fun _ => rfl) ?_
  intro Γ hC hnt hnm J hJ L a
  match L with
  | 0 => exact pX10_needSettingRange_0 hC hnt J hJ a
  | L + 1 => exact c_no
/-! SpiritWall.errorWith(I)I -/
theorem dX10_errorWith_0 : decode cX10_errorWith 0 = .ok (.iconst 0, 1) := by decide +kernel
theorem dX10_errorWith_1 : decode cX10_errorWith 1 = .ok (.iload_n 1, 1) := by decide +kernel
theorem dX10_errorWith_2 : decode cX10_errorWith 2 = .ok (.invokestatic 347, 3) := by decide +kernel
theorem dX10_errorWith_5 : decode cX10_errorWith 5 = .ok (.aload_n 0, 1) := by decide +kernel
theorem dX10_errorWith_6 : decode cX10_errorWith 6 = .ok (.getfield 62, 3) := by decide +kernel
theorem dX10_errorWith_9 : decode cX10_errorWith 9 = .ok (.aload_n 0, 1) := by decide +kernel
theorem dX10_errorWith_10 : decode cX10_errorWith 10 = .ok (.getfield 31, 3) := by decide +kernel
theorem dX10_errorWith_13 : decode cX10_errorWith 13 = .ok (.invokevirtual 164, 3) := by decide +kernel
theorem dX10_errorWith_16 : decode cX10_errorWith 16 = .ok (.aload_n 0, 1) := by decide +kernel
theorem dX10_errorWith_17 : decode cX10_errorWith 17 = .ok (.getfield 62, 3) := by decide +kernel
theorem dX10_errorWith_20 : decode cX10_errorWith 20 = .ok (.iload_n 1, 1) := by decide +kernel
theorem dX10_errorWith_21 : decode cX10_errorWith 21 = .ok (.invokevirtual 350, 3) := by decide +kernel
theorem dX10_errorWith_24 : decode cX10_errorWith 24 = .ok (.ireturn, 1) := by decide +kernel
def rmX10_errorWith : Room := rmk 12 1 6 290
theorem nX10_errorWith : nameOk yX10_errorWith 1 = true := by decide +kernel
def bX10_errorWith_0 (J : JT) : List Value → Sem
  | [.ref x0, .int x1] =>
    cV SX10_needSettingRange [.int 0, .int x1] <|
    gR 10 8 x0 fun r1 =>
    gR 10 3 x0 fun r2 =>
    ob 0 r1 (cV SX0_measure [.ref r1, .ref r2] <|
    gR 10 8 x0 fun r3 =>
    ob 0 r3 (cI SX0_foundError [.ref r3, .int x1] fun v4 =>
    rI v4))
  | _ => no
def bX10_errorWith (J : JT) : JT := fun L a => match L with
  | 0 => bX10_errorWith_0 J a
  | _ => no
def SX10_errorWith : ST := mk 2 bX10_errorWith
def lX10_errorWith (L : Nat) (a : List Value) : Nat × Nat × Nat × List (Nat × Value) × List Value := match L with
  | 0 => (0, 0, 0, lv_args 0 a, [])
  | _ => (0, 0, 0, [], [])
theorem pX10_errorWith_0 {Γ : CT} (hC : Ctx Γ "SpiritWall" cX10_errorWith 2 (some .int) rmX10_errorWith) (hnt : NT Γ) (J : JT) (hJ : ∀ L a, Cor Γ 2 (lX10_errorWith L a).1 (lX10_errorWith L a).2.1 (lX10_errorWith L a).2.2.1 (lX10_errorWith L a).2.2.2.1 (lX10_errorWith L a).2.2.2.2 (J L a)) (a : List Value) : Cor Γ 2 0 0 0 (lv_args 0 a) [] (bX10_errorWith_0 J a) := by
  unfold bX10_errorWith_0
  split
  · rename_i x0 x1
    refine c_sub [0, 1] rfl (loc' := [(0, .ref x0), (1, .int x1)]) ?_
    refine q_iconst hC dX10_errorWith_0 rfl ?_
    refine q_iload_n hC 1 dX10_errorWith_1 rfl rfl ?_
    refine q_cSV hC hnt (stk := []) (as := [.int 0, .int x1]) sX10_needSettingRange nX10_needSettingRange rfl w_725 w_727 w_27 w_726 (Nat.le_of_ble_eq_true rfl) dX10_errorWith_2 rfl ?_
    refine q_aload_n hC 0 dX10_errorWith_5 rfl rfl ?_
    refine q_getR hC (by decide) (by decide) rfl w_150 dX10_errorWith_6 (fun r1 => ?_)
    refine q_aload_n hC 0 dX10_errorWith_9 rfl rfl ?_
    refine q_getR hC (by decide) (by decide) rfl w_133 dX10_errorWith_10 (fun r2 => ?_)
    refine q_cVV hC hnt (stk := []) (as := [.ref r2]) sX0_measure (ci := 0) (by decide) rfl nX0_measure rfl w_536 w_538 w_539 w_149 w_537 (Nat.le_of_ble_eq_true rfl) dX10_errorWith_13 rfl ?_
    refine q_aload_n hC 0 dX10_errorWith_16 rfl rfl ?_
    refine q_getR hC (by decide) (by decide) rfl w_150 dX10_errorWith_17 (fun r3 => ?_)
    refine q_iload_n hC 1 dX10_errorWith_20 rfl rfl ?_
    refine q_cVI hC hnt (stk := []) (as := [.int x1]) sX0_foundError (ci := 0) (by decide) rfl nX0_foundError rfl w_728 w_458 w_459 w_149 w_457 (Nat.le_of_ble_eq_true rfl) dX10_errorWith_21 rfl (fun v4 => ?_)
    exact q_iret hC dX10_errorWith_24 (Nat.le_of_ble_eq_true rfl) (Nat.le_of_ble_eq_true rfl)
  · exact c_no
theorem sX10_errorWith : Snd yX10_errorWith (.code yX10_errorWith cX10_errorWith 2 (some .int)) rmX10_errorWith SX10_errorWith := by
  refine Snd.of lX10_errorWith (by decide +kernel) (fun _ => rfl) ?_
  intro Γ hC hnt hnm J hJ L a
  match L with
  | 0 => exact pX10_errorWith_0 hC hnt J hJ a
  | L + 1 => exact c_no
