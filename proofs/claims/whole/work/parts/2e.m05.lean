/-! SpiritWall$Edges.meanRises()V -/
theorem dX0_meanRises_0 : decode cX0_meanRises 0 = .ok (.iconst 0, 1) := by decide +kernel
theorem dX0_meanRises_1 : decode cX0_meanRises 1 = .ok (.istore_n 1, 1) := by decide +kernel
theorem dX0_meanRises_2 : decode cX0_meanRises 2 = .ok (.iload_n 1, 1) := by decide +kernel
theorem dX0_meanRises_3 : decode cX0_meanRises 3 = .ok (.aload_n 0, 1) := by decide +kernel
theorem dX0_meanRises_4 : decode cX0_meanRises 4 = .ok (.getfield 62, 3) := by decide +kernel
theorem dX0_meanRises_7 : decode cX0_meanRises 7 = .ok (.getfield 97, 3) := by decide +kernel
theorem dX0_meanRises_10 : decode cX0_meanRises 10 = .ok (.if_icmp .ge 42, 3) := by decide +kernel
theorem dX0_meanRises_13 : decode cX0_meanRises 13 = .ok (.aload_n 0, 1) := by decide +kernel
theorem dX0_meanRises_14 : decode cX0_meanRises 14 = .ok (.getfield 62, 3) := by decide +kernel
theorem dX0_meanRises_17 : decode cX0_meanRises 17 = .ok (.iload_n 1, 1) := by decide +kernel
theorem dX0_meanRises_18 : decode cX0_meanRises 18 = .ok (.invokevirtual 142, 3) := by decide +kernel
theorem dX0_meanRises_21 : decode cX0_meanRises 21 = .ok (.ifCond .eq 25, 3) := by decide +kernel
theorem dX0_meanRises_24 : decode cX0_meanRises 24 = .ok (.aload_n 0, 1) := by decide +kernel
theorem dX0_meanRises_25 : decode cX0_meanRises 25 = .ok (.getfield 43, 3) := by decide +kernel
theorem dX0_meanRises_28 : decode cX0_meanRises 28 = .ok (.aload_n 0, 1) := by decide +kernel
theorem dX0_meanRises_29 : decode cX0_meanRises 29 = .ok (.iload_n 1, 1) := by decide +kernel
theorem dX0_meanRises_30 : decode cX0_meanRises 30 = .ok (.invokevirtual 155, 3) := by decide +kernel
theorem dX0_meanRises_33 : decode cX0_meanRises 33 = .ok (.aload_n 0, 1) := by decide +kernel
theorem dX0_meanRises_34 : decode cX0_meanRises 34 = .ok (.iload_n 1, 1) := by decide +kernel
theorem dX0_meanRises_35 : decode cX0_meanRises 35 = .ok (.aload_n 0, 1) := by decide +kernel
theorem dX0_meanRises_36 : decode cX0_meanRises 36 = .ok (.iload_n 1, 1) := by decide +kernel
theorem dX0_meanRises_37 : decode cX0_meanRises 37 = .ok (.invokevirtual 167, 3) := by decide +kernel
theorem dX0_meanRises_40 : decode cX0_meanRises 40 = .ok (.invokevirtual 161, 3) := by decide +kernel
theorem dX0_meanRises_43 : decode cX0_meanRises 43 = .ok (.invokestatic 158, 3) := by decide +kernel
theorem dX0_meanRises_46 : decode cX0_meanRises 46 = .ok (.iinc 1 1, 3) := by decide +kernel
theorem dX0_meanRises_49 : decode cX0_meanRises 49 = .ok (.goto (-47), 3) := by decide +kernel
theorem dX0_meanRises_52 : decode cX0_meanRises 52 = .ok (.iconst 0, 1) := by decide +kernel
theorem dX0_meanRises_53 : decode cX0_meanRises 53 = .ok (.istore_n 1, 1) := by decide +kernel
theorem dX0_meanRises_54 : decode cX0_meanRises 54 = .ok (.iload_n 1, 1) := by decide +kernel
theorem dX0_meanRises_55 : decode cX0_meanRises 55 = .ok (.aload_n 0, 1) := by decide +kernel
theorem dX0_meanRises_56 : decode cX0_meanRises 56 = .ok (.getfield 15, 3) := by decide +kernel
theorem dX0_meanRises_59 : decode cX0_meanRises 59 = .ok (.if_icmp .ge 39, 3) := by decide +kernel
theorem dX0_meanRises_62 : decode cX0_meanRises 62 = .ok (.aload_n 0, 1) := by decide +kernel
theorem dX0_meanRises_63 : decode cX0_meanRises 63 = .ok (.getfield 43, 3) := by decide +kernel
theorem dX0_meanRises_66 : decode cX0_meanRises 66 = .ok (.iload_n 1, 1) := by decide +kernel
theorem dX0_meanRises_67 : decode cX0_meanRises 67 = .ok (.aload_n 0, 1) := by decide +kernel
theorem dX0_meanRises_68 : decode cX0_meanRises 68 = .ok (.getfield 43, 3) := by decide +kernel
theorem dX0_meanRises_71 : decode cX0_meanRises 71 = .ok (.iload_n 1, 1) := by decide +kernel
theorem dX0_meanRises_72 : decode cX0_meanRises 72 = .ok (.invokestatic 102, 3) := by decide +kernel
theorem dX0_meanRises_75 : decode cX0_meanRises 75 = .ok (.i2l, 1) := by decide +kernel
theorem dX0_meanRises_76 : decode cX0_meanRises 76 = .ok (.aload_n 0, 1) := by decide +kernel
theorem dX0_meanRises_77 : decode cX0_meanRises 77 = .ok (.getfield 40, 3) := by decide +kernel
theorem dX0_meanRises_80 : decode cX0_meanRises 80 = .ok (.iload_n 1, 1) := by decide +kernel
theorem dX0_meanRises_81 : decode cX0_meanRises 81 = .ok (.invokestatic 102, 3) := by decide +kernel
theorem dX0_meanRises_84 : decode cX0_meanRises 84 = .ok (.i2l, 1) := by decide +kernel
theorem dX0_meanRises_85 : decode cX0_meanRises 85 = .ok (.invokestatic 170, 3) := by decide +kernel
theorem dX0_meanRises_88 : decode cX0_meanRises 88 = .ok (.l2i, 1) := by decide +kernel
theorem dX0_meanRises_89 : decode cX0_meanRises 89 = .ok (.invokestatic 115, 3) := by decide +kernel
theorem dX0_meanRises_92 : decode cX0_meanRises 92 = .ok (.iinc 1 1, 3) := by decide +kernel
theorem dX0_meanRises_95 : decode cX0_meanRises 95 = .ok (.goto (-41), 3) := by decide +kernel
theorem dX0_meanRises_98 : decode cX0_meanRises 98 = .ok (.return_, 1) := by decide +kernel
def rmX0_meanRises : Room := rmk 9 0 0 214
theorem nX0_meanRises : nameOk yX0_meanRises 0 = true := by decide +kernel
def bX0_meanRises_0 (J : JT) : List Value → Sem
  | [.ref x0] =>
    J 1 [.ref x0, .int 0]
  | _ => no
def bX0_meanRises_1 (J : JT) : List Value → Sem
  | [.ref x0, .int x1] =>
    gR 0 1 x0 fun r1 =>
    gI 6 6 r1 fun v2 =>
    br (v2 ≤ x1)
    (J 2 [.ref x0, .int 0])
    (gR 0 1 x0 fun r3 =>
    ob 6 r3 (cI SX6_counts [.ref r3, .int x1] fun v4 =>
    br (v4 = 0)
    (J 1 [.ref x0, .int (x1 + 1)])
    (gR 0 12 x0 fun r5 =>
    ob 0 x0 (cI SX0_edgeOf [.ref x0, .int x1] fun v6 =>
    ob 0 x0 (cI SX0_sightRise [.ref x0, .int x1] fun v7 =>
    ob 0 x0 (cI SX0_fromLesser [.ref x0, .int x1, .int v7] fun v8 =>
    cV SX10_addTo [.ref r5, .int v6, .int v8] <|
    J 1 [.ref x0, .int (x1 + 1)]))))))
  | _ => no
def bX0_meanRises_2 (J : JT) : List Value → Sem
  | [.ref x0, .int x1] =>
    gI 0 3 x0 fun v1 =>
    br (v1 ≤ x1)
    (rV)
    (gR 0 12 x0 fun r2 =>
    gR 0 12 x0 fun r3 =>
    cI SX10_cell [.ref r3, .int x1] fun v4 =>
    gR 0 11 x0 fun r5 =>
    cI SX10_cell [.ref r5, .int x1] fun v6 =>
    cJ SX10_quotient [.long (v4.toInt64), .long (v6.toInt64)] fun v7 =>
    cV SX10_put [.ref r2, .int x1, .int (v7.toInt32)] <|
    J 2 [.ref x0, .int (x1 + 1)])
  | _ => no
def bX0_meanRises (J : JT) : JT := fun L a => match L with
  | 0 => bX0_meanRises_0 J a
  | 1 => bX0_meanRises_1 J a
  | 2 => bX0_meanRises_2 J a
  | _ => no
def SX0_meanRises : ST := mk 2 bX0_meanRises
def lX0_meanRises (L : Nat) (a : List Value) : Nat × Nat × Nat × List (Nat × Value) × List Value := match L with
  | 0 => (0, 0, 0, lv_args 0 a, [])
  | 1 => (0, 0, 2, List.zip [0, 1] a, [])
  | 2 => (0, 0, 54, List.zip [0, 1] a, [])
  | _ => (0, 0, 0, [], [])
theorem pX0_meanRises_0 {Γ : CT} (hC : Ctx Γ "SpiritWall$Edges" cX0_meanRises 2 none rmX0_meanRises) (hnt : NT Γ) (J : JT) (hJ : ∀ L a, Cor Γ 2 (lX0_meanRises L a).1 (lX0_meanRises L a).2.1 (lX0_meanRises L a).2.2.1 (lX0_meanRises L a).2.2.2.1 (lX0_meanRises L a).2.2.2.2 (J L a)) (a : List Value) : Cor Γ 2 0 0 0 (lv_args 0 a) [] (bX0_meanRises_0 J a) := by
  unfold bX0_meanRises_0
  split
  · rename_i x0
    refine c_sub [0] rfl (loc' := [(0, .ref x0)]) ?_
    refine q_iconst hC dX0_meanRises_0 rfl ?_
    refine q_istore_nA hC (loc' := [(1, .int 0), (0, .ref x0)]) dX0_meanRises_1 rfl (Nat.le_of_ble_eq_true rfl) rfl ?_
    exact c_sub [1, 0] rfl (hJ 1 [.ref x0, .int 0])
  · exact c_no
theorem pX0_meanRises_1 {Γ : CT} (hC : Ctx Γ "SpiritWall$Edges" cX0_meanRises 2 none rmX0_meanRises) (hnt : NT Γ) (J : JT) (hJ : ∀ L a, Cor Γ 2 (lX0_meanRises L a).1 (lX0_meanRises L a).2.1 (lX0_meanRises L a).2.2.1 (lX0_meanRises L a).2.2.2.1 (lX0_meanRises L a).2.2.2.2 (J L a)) (a : List Value) : Cor Γ 2 0 0 2 (List.zip [0, 1] a) [] (bX0_meanRises_1 J a) := by
  unfold bX0_meanRises_1
  split
  · rename_i x0 x1
    refine c_sub [0, 1] rfl (loc' := [(0, .ref x0), (1, .int x1)]) ?_
    refine q_iload_n hC 1 dX0_meanRises_2 rfl rfl ?_
    refine q_aload_n hC 0 dX0_meanRises_3 rfl rfl ?_
    refine q_getR hC (by decide) (by decide) rfl w_100 dX0_meanRises_4 (fun r1 => ?_)
    refine q_getI hC (by decide) (by decide) rfl w_366 dX0_meanRises_7 (fun v2 => ?_)
    refine q_ic_ge hC 52 dX0_meanRises_10 rfl ?_ ?_
    · refine q_iconst hC dX0_meanRises_52 rfl ?_
      refine q_istore_nA hC (loc' := [(1, .int 0), (0, .ref x0)]) dX0_meanRises_53 rfl (Nat.le_of_ble_eq_true rfl) rfl ?_
      exact c_sub [1, 0] rfl (hJ 2 [.ref x0, .int 0])
    · refine q_aload_n hC 0 dX0_meanRises_13 rfl rfl ?_
      refine q_getR hC (by decide) (by decide) rfl w_100 dX0_meanRises_14 (fun r3 => ?_)
      refine q_iload_n hC 1 dX0_meanRises_17 rfl rfl ?_
      refine q_cVI hC hnt (stk := []) (as := [.int x1]) sX6_counts (ci := 6) (by decide) rfl nX6_counts rfl w_392 w_394 w_395 w_35 w_393 (Nat.le_of_ble_eq_true rfl) dX0_meanRises_18 rfl (fun v4 => ?_)
      refine q_if_eq hC 46 dX0_meanRises_21 rfl ?_ ?_
      · refine q_iincA hC (loc' := [(1, .int (x1 + 1)), (0, .ref x0)]) 1 1 dX0_meanRises_46 rfl rfl (Nat.le_of_ble_eq_true rfl) rfl ?_
        refine q_goto hC 2 dX0_meanRises_49 rfl ?_
        exact c_sub [1, 0] rfl (hJ 1 [.ref x0, .int (x1 + 1)])
      · refine q_aload_n hC 0 dX0_meanRises_24 rfl rfl ?_
        refine q_getR hC (by decide) (by decide) rfl w_94 dX0_meanRises_25 (fun r5 => ?_)
        refine q_aload_n hC 0 dX0_meanRises_28 rfl rfl ?_
        refine q_iload_n hC 1 dX0_meanRises_29 rfl rfl ?_
        refine q_cVI hC hnt (stk := [.ref r5]) (as := [.int x1]) sX0_edgeOf (ci := 0) (by decide) rfl nX0_edgeOf rfl w_410 w_412 w_413 w_149 w_411 (Nat.le_of_ble_eq_true rfl) dX0_meanRises_30 rfl (fun v6 => ?_)
        refine q_aload_n hC 0 dX0_meanRises_33 rfl rfl ?_
        refine q_iload_n hC 1 dX0_meanRises_34 rfl rfl ?_
        refine q_aload_n hC 0 dX0_meanRises_35 rfl rfl ?_
        refine q_iload_n hC 1 dX0_meanRises_36 rfl rfl ?_
        refine q_cVI hC hnt (stk := [.int x1, .ref x0, .int v6, .ref r5]) (as := [.int x1]) sX0_sightRise (ci := 0) (by decide) rfl nX0_sightRise rfl w_435 w_437 w_438 w_149 w_436 (Nat.le_of_ble_eq_true rfl) dX0_meanRises_37 rfl (fun v7 => ?_)
        refine q_cVI hC hnt (stk := [.int v6, .ref r5]) (as := [.int x1, .int v7]) sX0_fromLesser (ci := 0) (by decide) rfl nX0_fromLesser rfl w_417 w_419 w_420 w_149 w_418 (Nat.le_of_ble_eq_true rfl) dX0_meanRises_40 rfl (fun v8 => ?_)
        refine q_cNV hC hnt (stk := []) (as := [.ref r5, .int v6, .int v8]) sX10_addTo nX10_addTo rfl w_414 w_416 w_27 w_415 (Nat.le_of_ble_eq_true rfl) dX0_meanRises_43 rfl ?_
        refine q_iincA hC (loc' := [(1, .int (x1 + 1)), (0, .ref x0)]) 1 1 dX0_meanRises_46 rfl rfl (Nat.le_of_ble_eq_true rfl) rfl ?_
        refine q_goto hC 2 dX0_meanRises_49 rfl ?_
        exact c_sub [1, 0] rfl (hJ 1 [.ref x0, .int (x1 + 1)])
  · exact c_no
theorem pX0_meanRises_2 {Γ : CT} (hC : Ctx Γ "SpiritWall$Edges" cX0_meanRises 2 none rmX0_meanRises) (hnt : NT Γ) (J : JT) (hJ : ∀ L a, Cor Γ 2 (lX0_meanRises L a).1 (lX0_meanRises L a).2.1 (lX0_meanRises L a).2.2.1 (lX0_meanRises L a).2.2.2.1 (lX0_meanRises L a).2.2.2.2 (J L a)) (a : List Value) : Cor Γ 2 0 0 54 (List.zip [0, 1] a) [] (bX0_meanRises_2 J a) := by
  unfold bX0_meanRises_2
  split
  · rename_i x0 x1
    refine c_sub [0, 1] rfl (loc' := [(0, .ref x0), (1, .int x1)]) ?_
    refine q_iload_n hC 1 dX0_meanRises_54 rfl rfl ?_
    refine q_aload_n hC 0 dX0_meanRises_55 rfl rfl ?_
    refine q_getI hC (by decide) (by decide) rfl w_85 dX0_meanRises_56 (fun v1 => ?_)
    refine q_ic_ge hC 98 dX0_meanRises_59 rfl ?_ ?_
    · exact q_vret hC dX0_meanRises_98 (Nat.le_of_ble_eq_true rfl) (Nat.le_of_ble_eq_true rfl)
    · refine q_aload_n hC 0 dX0_meanRises_62 rfl rfl ?_
      refine q_getR hC (by decide) (by decide) rfl w_94 dX0_meanRises_63 (fun r2 => ?_)
      refine q_iload_n hC 1 dX0_meanRises_66 rfl rfl ?_
      refine q_aload_n hC 0 dX0_meanRises_67 rfl rfl ?_
      refine q_getR hC (by decide) (by decide) rfl w_94 dX0_meanRises_68 (fun r3 => ?_)
      refine q_iload_n hC 1 dX0_meanRises_71 rfl rfl ?_
      refine q_cNI hC hnt (stk := [.int x1, .ref r2]) (as := [.ref r3, .int x1]) sX10_cell nX10_cell rfl w_352 w_202 w_27 w_201 (Nat.le_of_ble_eq_true rfl) dX0_meanRises_72 rfl (fun v4 => ?_)
      refine q_i2l hC dX0_meanRises_75 ?_
      refine q_aload_n hC 0 dX0_meanRises_76 rfl rfl ?_
      refine q_getR hC (by decide) (by decide) rfl w_93 dX0_meanRises_77 (fun r5 => ?_)
      refine q_iload_n hC 1 dX0_meanRises_80 rfl rfl ?_
      refine q_cNI hC hnt (stk := [.long (v4.toInt64), .int x1, .ref r2]) (as := [.ref r5, .int x1]) sX10_cell nX10_cell rfl w_352 w_202 w_27 w_201 (Nat.le_of_ble_eq_true rfl) dX0_meanRises_81 rfl (fun v6 => ?_)
      refine q_i2l hC dX0_meanRises_84 ?_
      refine q_cNJ hC hnt (stk := [.int x1, .ref r2]) (as := [.long (v4.toInt64), .long (v6.toInt64)]) sX10_quotient nX10_quotient rfl w_358 w_360 w_27 w_359 (Nat.le_of_ble_eq_true rfl) dX0_meanRises_85 rfl (fun v7 => ?_)
      refine q_l2i hC dX0_meanRises_88 ?_
      refine q_cNV hC hnt (stk := []) (as := [.ref r2, .int x1, .int (v7.toInt32)]) sX10_put nX10_put rfl w_373 w_187 w_27 w_186 (Nat.le_of_ble_eq_true rfl) dX0_meanRises_89 rfl ?_
      refine q_iincA hC (loc' := [(1, .int (x1 + 1)), (0, .ref x0)]) 1 1 dX0_meanRises_92 rfl rfl (Nat.le_of_ble_eq_true rfl) rfl ?_
      refine q_goto hC 54 dX0_meanRises_95 rfl ?_
      exact c_sub [1, 0] rfl (hJ 2 [.ref x0, .int (x1 + 1)])
  · exact c_no
theorem sX0_meanRises : Snd yX0_meanRises (.code yX0_meanRises cX0_meanRises 2 none) rmX0_meanRises SX0_meanRises := by
  refine Snd.of lX0_meanRises (by decide +kernel) (fun _ => rfl) ?_
  intro Γ hC hnt hnm J hJ L a
  match L with
  | 0 => exact pX0_meanRises_0 hC hnt J hJ a
  | 1 => exact pX0_meanRises_1 hC hnt J hJ a
  | 2 => exact pX0_meanRises_2 hC hnt J hJ a
  | L + 3 => exact c_no
/-! SpiritWall$Edges.measure(LSpiritWall$State;)V -/
theorem dX0_measure_0 : decode cX0_measure 0 = .ok (.aload_n 0, 1) := by decide +kernel
theorem dX0_measure_1 : decode cX0_measure 1 = .ok (.aload_n 1, 1) := by decide +kernel
theorem dX0_measure_2 : decode cX0_measure 2 = .ok (.putfield 62, 3) := by decide +kernel
theorem dX0_measure_5 : decode cX0_measure 5 = .ok (.aload_n 0, 1) := by decide +kernel
theorem dX0_measure_6 : decode cX0_measure 6 = .ok (.invokevirtual 66, 3) := by decide +kernel
theorem dX0_measure_9 : decode cX0_measure 9 = .ok (.aload_n 0, 1) := by decide +kernel
theorem dX0_measure_10 : decode cX0_measure 10 = .ok (.invokevirtual 69, 3) := by decide +kernel
theorem dX0_measure_13 : decode cX0_measure 13 = .ok (.aload_n 0, 1) := by decide +kernel
theorem dX0_measure_14 : decode cX0_measure 14 = .ok (.invokevirtual 72, 3) := by decide +kernel
theorem dX0_measure_17 : decode cX0_measure 17 = .ok (.aload_n 0, 1) := by decide +kernel
theorem dX0_measure_18 : decode cX0_measure 18 = .ok (.invokevirtual 75, 3) := by decide +kernel
theorem dX0_measure_21 : decode cX0_measure 21 = .ok (.aload_n 0, 1) := by decide +kernel
theorem dX0_measure_22 : decode cX0_measure 22 = .ok (.aload_n 0, 1) := by decide +kernel
theorem dX0_measure_23 : decode cX0_measure 23 = .ok (.getfield 62, 3) := by decide +kernel
theorem dX0_measure_26 : decode cX0_measure 26 = .ok (.getfield 78, 3) := by decide +kernel
theorem dX0_measure_29 : decode cX0_measure 29 = .ok (.ifCond .eq 13, 3) := by decide +kernel
theorem dX0_measure_32 : decode cX0_measure 32 = .ok (.aload_n 0, 1) := by decide +kernel
theorem dX0_measure_33 : decode cX0_measure 33 = .ok (.getfield 62, 3) := by decide +kernel
theorem dX0_measure_36 : decode cX0_measure 36 = .ok (.getfield 84, 3) := by decide +kernel
theorem dX0_measure_39 : decode cX0_measure 39 = .ok (.goto 15, 3) := by decide +kernel
theorem dX0_measure_42 : decode cX0_measure 42 = .ok (.aload_n 0, 1) := by decide +kernel
theorem dX0_measure_43 : decode cX0_measure 43 = .ok (.aload_n 0, 1) := by decide +kernel
theorem dX0_measure_44 : decode cX0_measure 44 = .ok (.getfield 62, 3) := by decide +kernel
theorem dX0_measure_47 : decode cX0_measure 47 = .ok (.iconst 0, 1) := by decide +kernel
theorem dX0_measure_48 : decode cX0_measure 48 = .ok (.invokevirtual 87, 3) := by decide +kernel
theorem dX0_measure_51 : decode cX0_measure 51 = .ok (.invokevirtual 91, 3) := by decide +kernel
theorem dX0_measure_54 : decode cX0_measure 54 = .ok (.putfield 9, 3) := by decide +kernel
theorem dX0_measure_57 : decode cX0_measure 57 = .ok (.aload_n 0, 1) := by decide +kernel
theorem dX0_measure_58 : decode cX0_measure 58 = .ok (.invokevirtual 94, 3) := by decide +kernel
theorem dX0_measure_61 : decode cX0_measure 61 = .ok (.return_, 1) := by decide +kernel
def rmX0_measure : Room := rmk 11 0 0 269
theorem nX0_measure : nameOk yX0_measure 1 = true := by decide +kernel
def bX0_measure_0 (J : JT) : List Value → Sem
  | [.ref x0, .ref x1] =>
    pR 0 1 x0 (some x1) <|
    ob 0 x0 (cV SX0_readSights [.ref x0] <|
    ob 0 x0 (cV SX0_tellPairs [.ref x0] <|
    ob 0 x0 (cV SX0_numberEdges [.ref x0] <|
    ob 0 x0 (cV SX0_sumReadings [.ref x0] <|
    gR 0 1 x0 fun r1 =>
    gI 6 1 r1 fun v2 =>
    br (v2 = 0)
    (gR 0 1 x0 fun r3 =>
    ob 6 r3 (cI SX6_settingOf [.ref r3, .int 0] fun v4 =>
    ob 0 x0 (cI SX0_foundError [.ref x0, .int v4] fun v5 =>
    pI 0 2 x0 v5 <|
    ob 0 x0 (cV SX0_meanRises [.ref x0] <|
    rV))))
    (gR 0 1 x0 fun r6 =>
    gI 6 2 r6 fun v7 =>
    pI 0 2 x0 v7 <|
    ob 0 x0 (cV SX0_meanRises [.ref x0] <|
    rV))))))
  | _ => no
def bX0_measure (J : JT) : JT := fun L a => match L with
  | 0 => bX0_measure_0 J a
  | _ => no
def SX0_measure : ST := mk 2 bX0_measure
def lX0_measure (L : Nat) (a : List Value) : Nat × Nat × Nat × List (Nat × Value) × List Value := match L with
  | 0 => (0, 0, 0, lv_args 0 a, [])
  | _ => (0, 0, 0, [], [])
theorem pX0_measure_0 {Γ : CT} (hC : Ctx Γ "SpiritWall$Edges" cX0_measure 2 none rmX0_measure) (hnt : NT Γ) (J : JT) (hJ : ∀ L a, Cor Γ 2 (lX0_measure L a).1 (lX0_measure L a).2.1 (lX0_measure L a).2.2.1 (lX0_measure L a).2.2.2.1 (lX0_measure L a).2.2.2.2 (J L a)) (a : List Value) : Cor Γ 2 0 0 0 (lv_args 0 a) [] (bX0_measure_0 J a) := by
  unfold bX0_measure_0
  split
  · rename_i x0 x1
    refine c_sub [0, 1] rfl (loc' := [(0, .ref x0), (1, .ref x1)]) ?_
    refine q_aload_n hC 0 dX0_measure_0 rfl rfl ?_
    refine q_aload_n hC 1 dX0_measure_1 rfl rfl ?_
    refine q_putR hC (by decide) (by decide) rfl (Or.inl rfl) w_100 dX0_measure_2 ?_
    refine q_aload_n hC 0 dX0_measure_5 rfl rfl ?_
    refine q_cVV hC hnt (stk := []) (as := []) sX0_readSights (ci := 0) (by decide) rfl nX0_readSights rfl w_439 w_441 w_442 w_149 w_440 (Nat.le_of_ble_eq_true rfl) dX0_measure_6 rfl ?_
    refine q_aload_n hC 0 dX0_measure_9 rfl rfl ?_
    refine q_cVV hC hnt (stk := []) (as := []) sX0_tellPairs (ci := 0) (by decide) rfl nX0_tellPairs rfl w_443 w_445 w_446 w_149 w_444 (Nat.le_of_ble_eq_true rfl) dX0_measure_10 rfl ?_
    refine q_aload_n hC 0 dX0_measure_13 rfl rfl ?_
    refine q_cVV hC hnt (stk := []) (as := []) sX0_numberEdges (ci := 0) (by decide) rfl nX0_numberEdges rfl w_447 w_449 w_450 w_149 w_448 (Nat.le_of_ble_eq_true rfl) dX0_measure_14 rfl ?_
    refine q_aload_n hC 0 dX0_measure_17 rfl rfl ?_
    refine q_cVV hC hnt (stk := []) (as := []) sX0_sumReadings (ci := 0) (by decide) rfl nX0_sumReadings rfl w_451 w_453 w_454 w_149 w_452 (Nat.le_of_ble_eq_true rfl) dX0_measure_18 rfl ?_
    refine q_aload_n hC 0 dX0_measure_21 rfl rfl ?_
    refine q_aload_n hC 0 dX0_measure_22 rfl rfl ?_
    refine q_getR hC (by decide) (by decide) rfl w_100 dX0_measure_23 (fun r1 => ?_)
    refine q_getI hC (by decide) (by decide) rfl w_455 dX0_measure_26 (fun v2 => ?_)
    refine q_if_eq hC 42 dX0_measure_29 rfl ?_ ?_
    · refine q_aload_n hC 0 dX0_measure_42 rfl rfl ?_
      refine q_aload_n hC 0 dX0_measure_43 rfl rfl ?_
      refine q_getR hC (by decide) (by decide) rfl w_100 dX0_measure_44 (fun r3 => ?_)
      refine q_iconst hC dX0_measure_47 rfl ?_
      refine q_cVI hC hnt (stk := [.ref x0, .ref x0]) (as := [.int 0]) sX6_settingOf (ci := 6) (by decide) rfl nX6_settingOf rfl w_353 w_355 w_356 w_35 w_354 (Nat.le_of_ble_eq_true rfl) dX0_measure_48 rfl (fun v4 => ?_)
      refine q_cVI hC hnt (stk := [.ref x0]) (as := [.int v4]) sX0_foundError (ci := 0) (by decide) rfl nX0_foundError rfl w_456 w_458 w_459 w_149 w_457 (Nat.le_of_ble_eq_true rfl) dX0_measure_51 rfl (fun v5 => ?_)
      refine q_putI hC (by decide) (by decide) rfl rfl w_84 dX0_measure_54 ?_
      refine q_aload_n hC 0 dX0_measure_57 rfl rfl ?_
      refine q_cVV hC hnt (stk := []) (as := []) sX0_meanRises (ci := 0) (by decide) rfl nX0_meanRises rfl w_460 w_462 w_463 w_149 w_461 (Nat.le_of_ble_eq_true rfl) dX0_measure_58 rfl ?_
      exact q_vret hC dX0_measure_61 (Nat.le_of_ble_eq_true rfl) (Nat.le_of_ble_eq_true rfl)
    · refine q_aload_n hC 0 dX0_measure_32 rfl rfl ?_
      refine q_getR hC (by decide) (by decide) rfl w_100 dX0_measure_33 (fun r6 => ?_)
      refine q_getI hC (by decide) (by decide) rfl w_464 dX0_measure_36 (fun v7 => ?_)
      refine q_goto hC 54 dX0_measure_39 rfl ?_
      refine q_putI hC (by decide) (by decide) rfl rfl w_84 dX0_measure_54 ?_
      refine q_aload_n hC 0 dX0_measure_57 rfl rfl ?_
      refine q_cVV hC hnt (stk := []) (as := []) sX0_meanRises (ci := 0) (by decide) rfl nX0_meanRises rfl w_460 w_462 w_463 w_149 w_461 (Nat.le_of_ble_eq_true rfl) dX0_measure_58 rfl ?_
      exact q_vret hC dX0_measure_61 (Nat.le_of_ble_eq_true rfl) (Nat.le_of_ble_eq_true rfl)
  · exact c_no
theorem sX0_measure : Snd yX0_measure (.code yX0_measure cX0_measure 2 none) rmX0_measure SX0_measure := by
  refine Snd.of lX0_measure (by decide +kernel) (fun _ => rfl) ?_
  intro Γ hC hnt hnm J hJ L a
  match L with
  | 0 => exact pX0_measure_0 hC hnt J hJ a
  | L + 1 => exact c_no
/-! SpiritWall$Forest.sortEdges()V -/
theorem dX1_sortEdges_0 : decode cX1_sortEdges 0 = .ok (.iconst 0, 1) := by decide +kernel
theorem dX1_sortEdges_1 : decode cX1_sortEdges 1 = .ok (.istore_n 1, 1) := by decide +kernel
theorem dX1_sortEdges_2 : decode cX1_sortEdges 2 = .ok (.iload_n 1, 1) := by decide +kernel
theorem dX1_sortEdges_3 : decode cX1_sortEdges 3 = .ok (.aload_n 0, 1) := by decide +kernel
theorem dX1_sortEdges_4 : decode cX1_sortEdges 4 = .ok (.getfield 31, 3) := by decide +kernel
theorem dX1_sortEdges_7 : decode cX1_sortEdges 7 = .ok (.getfield 42, 3) := by decide +kernel
theorem dX1_sortEdges_10 : decode cX1_sortEdges 10 = .ok (.if_icmp .ge 84, 3) := by decide +kernel
theorem dX1_sortEdges_13 : decode cX1_sortEdges 13 = .ok (.aload_n 0, 1) := by decide +kernel
theorem dX1_sortEdges_14 : decode cX1_sortEdges 14 = .ok (.getfield 31, 3) := by decide +kernel
theorem dX1_sortEdges_17 : decode cX1_sortEdges 17 = .ok (.getfield 63, 3) := by decide +kernel
theorem dX1_sortEdges_20 : decode cX1_sortEdges 20 = .ok (.iload_n 1, 1) := by decide +kernel
theorem dX1_sortEdges_21 : decode cX1_sortEdges 21 = .ok (.invokestatic 45, 3) := by decide +kernel
theorem dX1_sortEdges_24 : decode cX1_sortEdges 24 = .ok (.istore_n 2, 1) := by decide +kernel
theorem dX1_sortEdges_25 : decode cX1_sortEdges 25 = .ok (.iload_n 1, 1) := by decide +kernel
theorem dX1_sortEdges_26 : decode cX1_sortEdges 26 = .ok (.istore_n 3, 1) := by decide +kernel
theorem dX1_sortEdges_27 : decode cX1_sortEdges 27 = .ok (.iload_n 3, 1) := by decide +kernel
theorem dX1_sortEdges_28 : decode cX1_sortEdges 28 = .ok (.ifCond .le 51, 3) := by decide +kernel
theorem dX1_sortEdges_31 : decode cX1_sortEdges 31 = .ok (.aload_n 0, 1) := by decide +kernel
theorem dX1_sortEdges_32 : decode cX1_sortEdges 32 = .ok (.getfield 31, 3) := by decide +kernel
theorem dX1_sortEdges_35 : decode cX1_sortEdges 35 = .ok (.getfield 63, 3) := by decide +kernel
theorem dX1_sortEdges_38 : decode cX1_sortEdges 38 = .ok (.aload_n 0, 1) := by decide +kernel
theorem dX1_sortEdges_39 : decode cX1_sortEdges 39 = .ok (.getfield 15, 3) := by decide +kernel
theorem dX1_sortEdges_42 : decode cX1_sortEdges 42 = .ok (.iload_n 3, 1) := by decide +kernel
theorem dX1_sortEdges_43 : decode cX1_sortEdges 43 = .ok (.iconst 1, 1) := by decide +kernel
theorem dX1_sortEdges_44 : decode cX1_sortEdges 44 = .ok (.isub, 1) := by decide +kernel
theorem dX1_sortEdges_45 : decode cX1_sortEdges 45 = .ok (.invokestatic 45, 3) := by decide +kernel
theorem dX1_sortEdges_48 : decode cX1_sortEdges 48 = .ok (.invokestatic 45, 3) := by decide +kernel
theorem dX1_sortEdges_51 : decode cX1_sortEdges 51 = .ok (.iload_n 2, 1) := by decide +kernel
theorem dX1_sortEdges_52 : decode cX1_sortEdges 52 = .ok (.if_icmp .le 27, 3) := by decide +kernel
theorem dX1_sortEdges_55 : decode cX1_sortEdges 55 = .ok (.aload_n 0, 1) := by decide +kernel
theorem dX1_sortEdges_56 : decode cX1_sortEdges 56 = .ok (.getfield 15, 3) := by decide +kernel
theorem dX1_sortEdges_59 : decode cX1_sortEdges 59 = .ok (.iload_n 3, 1) := by decide +kernel
theorem dX1_sortEdges_60 : decode cX1_sortEdges 60 = .ok (.aload_n 0, 1) := by decide +kernel
theorem dX1_sortEdges_61 : decode cX1_sortEdges 61 = .ok (.getfield 15, 3) := by decide +kernel
theorem dX1_sortEdges_64 : decode cX1_sortEdges 64 = .ok (.iload_n 3, 1) := by decide +kernel
theorem dX1_sortEdges_65 : decode cX1_sortEdges 65 = .ok (.iconst 1, 1) := by decide +kernel
theorem dX1_sortEdges_66 : decode cX1_sortEdges 66 = .ok (.isub, 1) := by decide +kernel
theorem dX1_sortEdges_67 : decode cX1_sortEdges 67 = .ok (.invokestatic 45, 3) := by decide +kernel
theorem dX1_sortEdges_70 : decode cX1_sortEdges 70 = .ok (.invokestatic 35, 3) := by decide +kernel
theorem dX1_sortEdges_73 : decode cX1_sortEdges 73 = .ok (.iinc 3 (-1), 3) := by decide +kernel
theorem dX1_sortEdges_76 : decode cX1_sortEdges 76 = .ok (.goto (-49), 3) := by decide +kernel
theorem dX1_sortEdges_79 : decode cX1_sortEdges 79 = .ok (.aload_n 0, 1) := by decide +kernel
theorem dX1_sortEdges_80 : decode cX1_sortEdges 80 = .ok (.getfield 15, 3) := by decide +kernel
theorem dX1_sortEdges_83 : decode cX1_sortEdges 83 = .ok (.iload_n 3, 1) := by decide +kernel
theorem dX1_sortEdges_84 : decode cX1_sortEdges 84 = .ok (.iload_n 1, 1) := by decide +kernel
theorem dX1_sortEdges_85 : decode cX1_sortEdges 85 = .ok (.invokestatic 35, 3) := by decide +kernel
theorem dX1_sortEdges_88 : decode cX1_sortEdges 88 = .ok (.iinc 1 1, 3) := by decide +kernel
theorem dX1_sortEdges_91 : decode cX1_sortEdges 91 = .ok (.goto (-89), 3) := by decide +kernel
theorem dX1_sortEdges_94 : decode cX1_sortEdges 94 = .ok (.return_, 1) := by decide +kernel
def rmX1_sortEdges : Room := rmk 7 0 0 172
theorem nX1_sortEdges : nameOk yX1_sortEdges 0 = true := by decide +kernel
def bX1_sortEdges_0 (J : JT) : List Value → Sem
  | [.ref x0] =>
    J 1 [.ref x0, .int 0]
  | _ => no
def bX1_sortEdges_1 (J : JT) : List Value → Sem
  | [.ref x0, .int x1] =>
    gR 1 0 x0 fun r1 =>
    gI 0 3 r1 fun v2 =>
    br (v2 ≤ x1)
    (rV)
    (gR 1 0 x0 fun r3 =>
    gR 0 10 r3 fun r4 =>
    cI SX10_cell [.ref r4, .int x1] fun v5 =>
    J 2 [.ref x0, .int x1, .int v5, .int x1])
  | _ => no
def bX1_sortEdges_2 (J : JT) : List Value → Sem
  | [.ref x0, .int x1, .int x2, .int x3] =>
    br (x3 ≤ 0)
    (gR 1 2 x0 fun r1 =>
    cV SX10_put [.ref r1, .int x3, .int x1] <|
    J 1 [.ref x0, .int (x1 + 1)])
    (gR 1 0 x0 fun r2 =>
    gR 0 10 r2 fun r3 =>
    gR 1 2 x0 fun r4 =>
    cI SX10_cell [.ref r4, .int (x3 - 1)] fun v5 =>
    cI SX10_cell [.ref r3, .int v5] fun v6 =>
    br (v6 ≤ x2)
    (gR 1 2 x0 fun r7 =>
    cV SX10_put [.ref r7, .int x3, .int x1] <|
    J 1 [.ref x0, .int (x1 + 1)])
    (gR 1 2 x0 fun r8 =>
    gR 1 2 x0 fun r9 =>
    cI SX10_cell [.ref r9, .int (x3 - 1)] fun v10 =>
    cV SX10_put [.ref r8, .int x3, .int v10] <|
    J 2 [.ref x0, .int x1, .int x2, .int (x3 + (-1))]))
  | _ => no
def bX1_sortEdges (J : JT) : JT := fun L a => match L with
  | 0 => bX1_sortEdges_0 J a
  | 1 => bX1_sortEdges_1 J a
  | 2 => bX1_sortEdges_2 J a
  | _ => no
def SX1_sortEdges : ST := mk 4 bX1_sortEdges
def lX1_sortEdges (L : Nat) (a : List Value) : Nat × Nat × Nat × List (Nat × Value) × List Value := match L with
  | 0 => (0, 0, 0, lv_args 0 a, [])
  | 1 => (0, 0, 2, List.zip [0, 1] a, [])
  | 2 => (0, 0, 27, List.zip [0, 1, 2, 3] a, [])
  | _ => (0, 0, 0, [], [])
theorem pX1_sortEdges_0 {Γ : CT} (hC : Ctx Γ "SpiritWall$Forest" cX1_sortEdges 4 none rmX1_sortEdges) (hnt : NT Γ) (J : JT) (hJ : ∀ L a, Cor Γ 4 (lX1_sortEdges L a).1 (lX1_sortEdges L a).2.1 (lX1_sortEdges L a).2.2.1 (lX1_sortEdges L a).2.2.2.1 (lX1_sortEdges L a).2.2.2.2 (J L a)) (a : List Value) : Cor Γ 4 0 0 0 (lv_args 0 a) [] (bX1_sortEdges_0 J a) := by
  unfold bX1_sortEdges_0
  split
  · rename_i x0
    refine c_sub [0] rfl (loc' := [(0, .ref x0)]) ?_
    refine q_iconst hC dX1_sortEdges_0 rfl ?_
    refine q_istore_nA hC (loc' := [(1, .int 0), (0, .ref x0)]) dX1_sortEdges_1 rfl (Nat.le_of_ble_eq_true rfl) rfl ?_
    exact c_sub [1, 0] rfl (hJ 1 [.ref x0, .int 0])
  · exact c_no
theorem pX1_sortEdges_1 {Γ : CT} (hC : Ctx Γ "SpiritWall$Forest" cX1_sortEdges 4 none rmX1_sortEdges) (hnt : NT Γ) (J : JT) (hJ : ∀ L a, Cor Γ 4 (lX1_sortEdges L a).1 (lX1_sortEdges L a).2.1 (lX1_sortEdges L a).2.2.1 (lX1_sortEdges L a).2.2.2.1 (lX1_sortEdges L a).2.2.2.2 (J L a)) (a : List Value) : Cor Γ 4 0 0 2 (List.zip [0, 1] a) [] (bX1_sortEdges_1 J a) := by
  unfold bX1_sortEdges_1
  split
  · rename_i x0 x1
    refine c_sub [0, 1] rfl (loc' := [(0, .ref x0), (1, .int x1)]) ?_
    refine q_iload_n hC 1 dX1_sortEdges_2 rfl rfl ?_
    refine q_aload_n hC 0 dX1_sortEdges_3 rfl rfl ?_
    refine q_getR hC (by decide) (by decide) rfl w_108 dX1_sortEdges_4 (fun r1 => ?_)
    refine q_getI hC (by decide) (by decide) rfl w_465 dX1_sortEdges_7 (fun v2 => ?_)
    refine q_ic_ge hC 94 dX1_sortEdges_10 rfl ?_ ?_
    · exact q_vret hC dX1_sortEdges_94 (Nat.le_of_ble_eq_true rfl) (Nat.le_of_ble_eq_true rfl)
    · refine q_aload_n hC 0 dX1_sortEdges_13 rfl rfl ?_
      refine q_getR hC (by decide) (by decide) rfl w_108 dX1_sortEdges_14 (fun r3 => ?_)
      refine q_getR hC (by decide) (by decide) rfl w_466 dX1_sortEdges_17 (fun r4 => ?_)
      refine q_iload_n hC 1 dX1_sortEdges_20 rfl rfl ?_
      refine q_cNI hC hnt (stk := []) (as := [.ref r4, .int x1]) sX10_cell nX10_cell rfl w_467 w_202 w_27 w_201 (Nat.le_of_ble_eq_true rfl) dX1_sortEdges_21 rfl (fun v5 => ?_)
      refine q_istore_nA hC (loc' := [(2, .int v5), (0, .ref x0), (1, .int x1)]) dX1_sortEdges_24 rfl (Nat.le_of_ble_eq_true rfl) rfl ?_
      refine q_iload_n hC 2 dX1_sortEdges_25 rfl rfl ?_
      refine q_istore_nA hC (loc' := [(3, .int x1), (2, .int v5), (0, .ref x0), (1, .int x1)]) dX1_sortEdges_26 rfl (Nat.le_of_ble_eq_true rfl) rfl ?_
      exact c_sub [2, 3, 1, 0] rfl (hJ 2 [.ref x0, .int x1, .int v5, .int x1])
  · exact c_no
theorem pX1_sortEdges_2 {Γ : CT} (hC : Ctx Γ "SpiritWall$Forest" cX1_sortEdges 4 none rmX1_sortEdges) (hnt : NT Γ) (J : JT) (hJ : ∀ L a, Cor Γ 4 (lX1_sortEdges L a).1 (lX1_sortEdges L a).2.1 (lX1_sortEdges L a).2.2.1 (lX1_sortEdges L a).2.2.2.1 (lX1_sortEdges L a).2.2.2.2 (J L a)) (a : List Value) : Cor Γ 4 0 0 27 (List.zip [0, 1, 2, 3] a) [] (bX1_sortEdges_2 J a) := by
  unfold bX1_sortEdges_2
  split
  · rename_i x0 x1 x2 x3
    refine c_sub [0, 1, 2, 3] rfl (loc' := [(0, .ref x0), (1, .int x1), (2, .int x2), (3, .int x3)]) ?_
    refine q_iload_n hC 3 dX1_sortEdges_27 rfl rfl ?_
    refine q_if_le hC 79 dX1_sortEdges_28 rfl ?_ ?_
    · refine q_aload_n hC 0 dX1_sortEdges_79 rfl rfl ?_
      refine q_getR hC (by decide) (by decide) rfl w_103 dX1_sortEdges_80 (fun r1 => ?_)
      refine q_iload_n hC 3 dX1_sortEdges_83 rfl rfl ?_
      refine q_iload_n hC 1 dX1_sortEdges_84 rfl rfl ?_
      refine q_cNV hC hnt (stk := []) (as := [.ref r1, .int x3, .int x1]) sX10_put nX10_put rfl w_468 w_187 w_27 w_186 (Nat.le_of_ble_eq_true rfl) dX1_sortEdges_85 rfl ?_
      refine q_iincA hC (loc' := [(1, .int (x1 + 1)), (0, .ref x0), (2, .int x2), (3, .int x3)]) 1 1 dX1_sortEdges_88 rfl rfl (Nat.le_of_ble_eq_true rfl) rfl ?_
      refine q_goto hC 2 dX1_sortEdges_91 rfl ?_
      exact c_sub [1, 0] rfl (hJ 1 [.ref x0, .int (x1 + 1)])
    · refine q_aload_n hC 0 dX1_sortEdges_31 rfl rfl ?_
      refine q_getR hC (by decide) (by decide) rfl w_108 dX1_sortEdges_32 (fun r2 => ?_)
      refine q_getR hC (by decide) (by decide) rfl w_466 dX1_sortEdges_35 (fun r3 => ?_)
      refine q_aload_n hC 0 dX1_sortEdges_38 rfl rfl ?_
      refine q_getR hC (by decide) (by decide) rfl w_103 dX1_sortEdges_39 (fun r4 => ?_)
      refine q_iload_n hC 3 dX1_sortEdges_42 rfl rfl ?_
      refine q_iconst hC dX1_sortEdges_43 rfl ?_
      refine q_isub hC dX1_sortEdges_44 ?_
      refine q_cNI hC hnt (stk := [.ref r3]) (as := [.ref r4, .int (x3 - 1)]) sX10_cell nX10_cell rfl w_467 w_202 w_27 w_201 (Nat.le_of_ble_eq_true rfl) dX1_sortEdges_45 rfl (fun v5 => ?_)
      refine q_cNI hC hnt (stk := []) (as := [.ref r3, .int v5]) sX10_cell nX10_cell rfl w_467 w_202 w_27 w_201 (Nat.le_of_ble_eq_true rfl) dX1_sortEdges_48 rfl (fun v6 => ?_)
      refine q_iload_n hC 2 dX1_sortEdges_51 rfl rfl ?_
      refine q_ic_le hC 79 dX1_sortEdges_52 rfl ?_ ?_
      · refine q_aload_n hC 0 dX1_sortEdges_79 rfl rfl ?_
        refine q_getR hC (by decide) (by decide) rfl w_103 dX1_sortEdges_80 (fun r7 => ?_)
        refine q_iload_n hC 3 dX1_sortEdges_83 rfl rfl ?_
        refine q_iload_n hC 1 dX1_sortEdges_84 rfl rfl ?_
        refine q_cNV hC hnt (stk := []) (as := [.ref r7, .int x3, .int x1]) sX10_put nX10_put rfl w_468 w_187 w_27 w_186 (Nat.le_of_ble_eq_true rfl) dX1_sortEdges_85 rfl ?_
        refine q_iincA hC (loc' := [(1, .int (x1 + 1)), (0, .ref x0), (2, .int x2), (3, .int x3)]) 1 1 dX1_sortEdges_88 rfl rfl (Nat.le_of_ble_eq_true rfl) rfl ?_
        refine q_goto hC 2 dX1_sortEdges_91 rfl ?_
        exact c_sub [1, 0] rfl (hJ 1 [.ref x0, .int (x1 + 1)])
      · refine q_aload_n hC 0 dX1_sortEdges_55 rfl rfl ?_
        refine q_getR hC (by decide) (by decide) rfl w_103 dX1_sortEdges_56 (fun r8 => ?_)
        refine q_iload_n hC 3 dX1_sortEdges_59 rfl rfl ?_
        refine q_aload_n hC 0 dX1_sortEdges_60 rfl rfl ?_
        refine q_getR hC (by decide) (by decide) rfl w_103 dX1_sortEdges_61 (fun r9 => ?_)
        refine q_iload_n hC 3 dX1_sortEdges_64 rfl rfl ?_
        refine q_iconst hC dX1_sortEdges_65 rfl ?_
        refine q_isub hC dX1_sortEdges_66 ?_
        refine q_cNI hC hnt (stk := [.int x3, .ref r8]) (as := [.ref r9, .int (x3 - 1)]) sX10_cell nX10_cell rfl w_467 w_202 w_27 w_201 (Nat.le_of_ble_eq_true rfl) dX1_sortEdges_67 rfl (fun v10 => ?_)
        refine q_cNV hC hnt (stk := []) (as := [.ref r8, .int x3, .int v10]) sX10_put nX10_put rfl w_468 w_187 w_27 w_186 (Nat.le_of_ble_eq_true rfl) dX1_sortEdges_70 rfl ?_
        refine q_iincA hC (loc' := [(3, .int (x3 + (-1))), (0, .ref x0), (1, .int x1), (2, .int x2)]) 3 (-1) dX1_sortEdges_73 rfl rfl (Nat.le_of_ble_eq_true rfl) rfl ?_
        refine q_goto hC 27 dX1_sortEdges_76 rfl ?_
        exact c_sub [1, 2, 3, 0] rfl (hJ 2 [.ref x0, .int x1, .int x2, .int (x3 + (-1))])
  · exact c_no
theorem sX1_sortEdges : Snd yX1_sortEdges (.code yX1_sortEdges cX1_sortEdges 4 none) rmX1_sortEdges SX1_sortEdges := by
  refine Snd.of lX1_sortEdges (by decide +kernel) (fun _ => rfl) ?_
  intro Γ hC hnt hnm J hJ L a
  match L with
  | 0 => exact pX1_sortEdges_0 hC hnt J hJ a
  | 1 => exact pX1_sortEdges_1 hC hnt J hJ a
  | 2 => exact pX1_sortEdges_2 hC hnt J hJ a
  | L + 3 => exact c_no
/-! SpiritWall$Forest.joined(II)Z -/
theorem dX1_joined_0 : decode cX1_joined 0 = .ok (.aload_n 0, 1) := by decide +kernel
theorem dX1_joined_1 : decode cX1_joined 1 = .ok (.getfield 22, 3) := by decide +kernel
theorem dX1_joined_4 : decode cX1_joined 4 = .ok (.iload_n 1, 1) := by decide +kernel
theorem dX1_joined_5 : decode cX1_joined 5 = .ok (.invokestatic 45, 3) := by decide +kernel
theorem dX1_joined_8 : decode cX1_joined 8 = .ok (.aload_n 0, 1) := by decide +kernel
theorem dX1_joined_9 : decode cX1_joined 9 = .ok (.getfield 22, 3) := by decide +kernel
theorem dX1_joined_12 : decode cX1_joined 12 = .ok (.iload_n 2, 1) := by decide +kernel
theorem dX1_joined_13 : decode cX1_joined 13 = .ok (.invokestatic 45, 3) := by decide +kernel
theorem dX1_joined_16 : decode cX1_joined 16 = .ok (.if_icmp .ne 7, 3) := by decide +kernel
theorem dX1_joined_19 : decode cX1_joined 19 = .ok (.iconst 1, 1) := by decide +kernel
theorem dX1_joined_20 : decode cX1_joined 20 = .ok (.goto 4, 3) := by decide +kernel
theorem dX1_joined_23 : decode cX1_joined 23 = .ok (.iconst 0, 1) := by decide +kernel
theorem dX1_joined_24 : decode cX1_joined 24 = .ok (.ireturn, 1) := by decide +kernel
def rmX1_joined : Room := rmk 7 0 0 171
theorem nX1_joined : nameOk yX1_joined 2 = true := by decide +kernel
def bX1_joined_0 (J : JT) : List Value → Sem
  | [.ref x0, .int x1, .int x2] =>
    gR 1 4 x0 fun r1 =>
    cI SX10_cell [.ref r1, .int x1] fun v2 =>
    gR 1 4 x0 fun r3 =>
    cI SX10_cell [.ref r3, .int x2] fun v4 =>
    br (v2 = v4)
    (rZ 1)
    (rZ 0)
  | _ => no
def bX1_joined (J : JT) : JT := fun L a => match L with
  | 0 => bX1_joined_0 J a
  | _ => no
def SX1_joined : ST := mk 3 bX1_joined
def lX1_joined (L : Nat) (a : List Value) : Nat × Nat × Nat × List (Nat × Value) × List Value := match L with
  | 0 => (0, 0, 0, lv_args 0 a, [])
  | _ => (0, 0, 0, [], [])
theorem pX1_joined_0 {Γ : CT} (hC : Ctx Γ "SpiritWall$Forest" cX1_joined 3 (some .boolean) rmX1_joined) (hnt : NT Γ) (J : JT) (hJ : ∀ L a, Cor Γ 3 (lX1_joined L a).1 (lX1_joined L a).2.1 (lX1_joined L a).2.2.1 (lX1_joined L a).2.2.2.1 (lX1_joined L a).2.2.2.2 (J L a)) (a : List Value) : Cor Γ 3 0 0 0 (lv_args 0 a) [] (bX1_joined_0 J a) := by
  unfold bX1_joined_0
  split
  · rename_i x0 x1 x2
    refine c_sub [0, 1, 2] rfl (loc' := [(0, .ref x0), (1, .int x1), (2, .int x2)]) ?_
    refine q_aload_n hC 0 dX1_joined_0 rfl rfl ?_
    refine q_getR hC (by decide) (by decide) rfl w_105 dX1_joined_1 (fun r1 => ?_)
    refine q_iload_n hC 1 dX1_joined_4 rfl rfl ?_
    refine q_cNI hC hnt (stk := []) (as := [.ref r1, .int x1]) sX10_cell nX10_cell rfl w_467 w_202 w_27 w_201 (Nat.le_of_ble_eq_true rfl) dX1_joined_5 rfl (fun v2 => ?_)
    refine q_aload_n hC 0 dX1_joined_8 rfl rfl ?_
    refine q_getR hC (by decide) (by decide) rfl w_105 dX1_joined_9 (fun r3 => ?_)
    refine q_iload_n hC 2 dX1_joined_12 rfl rfl ?_
    refine q_cNI hC hnt (stk := [.int v2]) (as := [.ref r3, .int x2]) sX10_cell nX10_cell rfl w_467 w_202 w_27 w_201 (Nat.le_of_ble_eq_true rfl) dX1_joined_13 rfl (fun v4 => ?_)
    refine q_ic_ne hC 23 dX1_joined_16 rfl ?_ ?_
    · refine q_iconst hC dX1_joined_23 rfl ?_
      exact q_zret hC dX1_joined_24 (Nat.le_of_ble_eq_true rfl) (Nat.le_of_ble_eq_true rfl)
    · refine q_iconst hC dX1_joined_19 rfl ?_
      refine q_goto hC 24 dX1_joined_20 rfl ?_
      exact q_zret hC dX1_joined_24 (Nat.le_of_ble_eq_true rfl) (Nat.le_of_ble_eq_true rfl)
  · exact c_no
theorem sX1_joined : Snd yX1_joined (.code yX1_joined cX1_joined 3 (some .boolean)) rmX1_joined SX1_joined := by
  refine Snd.of lX1_joined (by decide +kernel) (fun _ => rfl) ?_
  intro Γ hC hnt hnm J hJ L a
  match L with
  | 0 => exact pX1_joined_0 hC hnt J hJ a
  | L + 1 => exact c_no
/-! SpiritWall$Forest.climbOf(II)I -/
theorem dX1_climbOf_0 : decode cX1_climbOf 0 = .ok (.aload_n 0, 1) := by decide +kernel
theorem dX1_climbOf_1 : decode cX1_climbOf 1 = .ok (.getfield 28, 3) := by decide +kernel
theorem dX1_climbOf_4 : decode cX1_climbOf 4 = .ok (.bipush 12, 2) := by decide +kernel
theorem dX1_climbOf_6 : decode cX1_climbOf 6 = .ok (.iload_n 1, 1) := by decide +kernel
theorem dX1_climbOf_7 : decode cX1_climbOf 7 = .ok (.imul, 1) := by decide +kernel
theorem dX1_climbOf_8 : decode cX1_climbOf 8 = .ok (.iload_n 2, 1) := by decide +kernel
theorem dX1_climbOf_9 : decode cX1_climbOf 9 = .ok (.iadd, 1) := by decide +kernel
theorem dX1_climbOf_10 : decode cX1_climbOf 10 = .ok (.invokestatic 45, 3) := by decide +kernel
theorem dX1_climbOf_13 : decode cX1_climbOf 13 = .ok (.ireturn, 1) := by decide +kernel
def rmX1_climbOf : Room := rmk 7 0 0 171
theorem nX1_climbOf : nameOk yX1_climbOf 2 = true := by decide +kernel
def bX1_climbOf_0 (J : JT) : List Value → Sem
  | [.ref x0, .int x1, .int x2] =>
    gR 1 6 x0 fun r1 =>
    cI SX10_cell [.ref r1, .int ((12 * x1) + x2)] fun v2 =>
    rI v2
  | _ => no
def bX1_climbOf (J : JT) : JT := fun L a => match L with
  | 0 => bX1_climbOf_0 J a
  | _ => no
def SX1_climbOf : ST := mk 3 bX1_climbOf
def lX1_climbOf (L : Nat) (a : List Value) : Nat × Nat × Nat × List (Nat × Value) × List Value := match L with
  | 0 => (0, 0, 0, lv_args 0 a, [])
  | _ => (0, 0, 0, [], [])
theorem pX1_climbOf_0 {Γ : CT} (hC : Ctx Γ "SpiritWall$Forest" cX1_climbOf 3 (some .int) rmX1_climbOf) (hnt : NT Γ) (J : JT) (hJ : ∀ L a, Cor Γ 3 (lX1_climbOf L a).1 (lX1_climbOf L a).2.1 (lX1_climbOf L a).2.2.1 (lX1_climbOf L a).2.2.2.1 (lX1_climbOf L a).2.2.2.2 (J L a)) (a : List Value) : Cor Γ 3 0 0 0 (lv_args 0 a) [] (bX1_climbOf_0 J a) := by
  unfold bX1_climbOf_0
  split
  · rename_i x0 x1 x2
    refine c_sub [0, 1, 2] rfl (loc' := [(0, .ref x0), (1, .int x1), (2, .int x2)]) ?_
    refine q_aload_n hC 0 dX1_climbOf_0 rfl rfl ?_
    refine q_getR hC (by decide) (by decide) rfl w_107 dX1_climbOf_1 (fun r1 => ?_)
    refine q_bipush hC (v := 12) dX1_climbOf_4 rfl ?_
    refine q_iload_n hC 1 dX1_climbOf_6 rfl rfl ?_
    refine q_imul hC dX1_climbOf_7 ?_
    refine q_iload_n hC 2 dX1_climbOf_8 rfl rfl ?_
    refine q_iadd hC dX1_climbOf_9 ?_
    refine q_cNI hC hnt (stk := []) (as := [.ref r1, .int ((12 * x1) + x2)]) sX10_cell nX10_cell rfl w_467 w_202 w_27 w_201 (Nat.le_of_ble_eq_true rfl) dX1_climbOf_10 rfl (fun v2 => ?_)
    exact q_iret hC dX1_climbOf_13 (Nat.le_of_ble_eq_true rfl) (Nat.le_of_ble_eq_true rfl)
  · exact c_no
theorem sX1_climbOf : Snd yX1_climbOf (.code yX1_climbOf cX1_climbOf 3 (some .int)) rmX1_climbOf SX1_climbOf := by
  refine Snd.of lX1_climbOf (by decide +kernel) (fun _ => rfl) ?_
  intro Γ hC hnt hnm J hJ L a
  match L with
  | 0 => exact pX1_climbOf_0 hC hnt J hJ a
  | L + 1 => exact c_no
/-! SpiritWall$Forest.hop(II)I -/
theorem dX1_hop_0 : decode cX1_hop 0 = .ok (.aload_n 0, 1) := by decide +kernel
theorem dX1_hop_1 : decode cX1_hop 1 = .ok (.getfield 25, 3) := by decide +kernel
theorem dX1_hop_4 : decode cX1_hop 4 = .ok (.bipush 12, 2) := by decide +kernel
theorem dX1_hop_6 : decode cX1_hop 6 = .ok (.iload_n 1, 1) := by decide +kernel
theorem dX1_hop_7 : decode cX1_hop 7 = .ok (.imul, 1) := by decide +kernel
theorem dX1_hop_8 : decode cX1_hop 8 = .ok (.iload_n 2, 1) := by decide +kernel
theorem dX1_hop_9 : decode cX1_hop 9 = .ok (.iadd, 1) := by decide +kernel
theorem dX1_hop_10 : decode cX1_hop 10 = .ok (.invokestatic 45, 3) := by decide +kernel
theorem dX1_hop_13 : decode cX1_hop 13 = .ok (.ireturn, 1) := by decide +kernel
def rmX1_hop : Room := rmk 7 0 0 171
theorem nX1_hop : nameOk yX1_hop 2 = true := by decide +kernel
def bX1_hop_0 (J : JT) : List Value → Sem
  | [.ref x0, .int x1, .int x2] =>
    gR 1 5 x0 fun r1 =>
    cI SX10_cell [.ref r1, .int ((12 * x1) + x2)] fun v2 =>
    rI v2
  | _ => no
def bX1_hop (J : JT) : JT := fun L a => match L with
  | 0 => bX1_hop_0 J a
  | _ => no
def SX1_hop : ST := mk 3 bX1_hop
def lX1_hop (L : Nat) (a : List Value) : Nat × Nat × Nat × List (Nat × Value) × List Value := match L with
  | 0 => (0, 0, 0, lv_args 0 a, [])
  | _ => (0, 0, 0, [], [])
theorem pX1_hop_0 {Γ : CT} (hC : Ctx Γ "SpiritWall$Forest" cX1_hop 3 (some .int) rmX1_hop) (hnt : NT Γ) (J : JT) (hJ : ∀ L a, Cor Γ 3 (lX1_hop L a).1 (lX1_hop L a).2.1 (lX1_hop L a).2.2.1 (lX1_hop L a).2.2.2.1 (lX1_hop L a).2.2.2.2 (J L a)) (a : List Value) : Cor Γ 3 0 0 0 (lv_args 0 a) [] (bX1_hop_0 J a) := by
  unfold bX1_hop_0
  split
  · rename_i x0 x1 x2
    refine c_sub [0, 1, 2] rfl (loc' := [(0, .ref x0), (1, .int x1), (2, .int x2)]) ?_
    refine q_aload_n hC 0 dX1_hop_0 rfl rfl ?_
    refine q_getR hC (by decide) (by decide) rfl w_106 dX1_hop_1 (fun r1 => ?_)
    refine q_bipush hC (v := 12) dX1_hop_4 rfl ?_
    refine q_iload_n hC 1 dX1_hop_6 rfl rfl ?_
    refine q_imul hC dX1_hop_7 ?_
    refine q_iload_n hC 2 dX1_hop_8 rfl rfl ?_
    refine q_iadd hC dX1_hop_9 ?_
    refine q_cNI hC hnt (stk := []) (as := [.ref r1, .int ((12 * x1) + x2)]) sX10_cell nX10_cell rfl w_467 w_202 w_27 w_201 (Nat.le_of_ble_eq_true rfl) dX1_hop_10 rfl (fun v2 => ?_)
    exact q_iret hC dX1_hop_13 (Nat.le_of_ble_eq_true rfl) (Nat.le_of_ble_eq_true rfl)
  · exact c_no
theorem sX1_hop : Snd yX1_hop (.code yX1_hop cX1_hop 3 (some .int)) rmX1_hop SX1_hop := by
  refine Snd.of lX1_hop (by decide +kernel) (fun _ => rfl) ?_
  intro Γ hC hnt hnm J hJ L a
  match L with
  | 0 => exact pX1_hop_0 hC hnt J hJ a
  | L + 1 => exact c_no
/-! SpiritWall$Forest.leadAcross(III)V -/
theorem dX1_leadAcross_0 : decode cX1_leadAcross 0 = .ok (.aload_n 0, 1) := by decide +kernel
theorem dX1_leadAcross_1 : decode cX1_leadAcross 1 = .ok (.getfield 31, 3) := by decide +kernel
theorem dX1_leadAcross_4 : decode cX1_leadAcross 4 = .ok (.getfield 49, 3) := by decide +kernel
theorem dX1_leadAcross_7 : decode cX1_leadAcross 7 = .ok (.iload_n 1, 1) := by decide +kernel
theorem dX1_leadAcross_8 : decode cX1_leadAcross 8 = .ok (.invokestatic 45, 3) := by decide +kernel
theorem dX1_leadAcross_11 : decode cX1_leadAcross 11 = .ok (.istore 4, 2) := by decide +kernel
theorem dX1_leadAcross_13 : decode cX1_leadAcross 13 = .ok (.aload_n 0, 1) := by decide +kernel
theorem dX1_leadAcross_14 : decode cX1_leadAcross 14 = .ok (.getfield 31, 3) := by decide +kernel
theorem dX1_leadAcross_17 : decode cX1_leadAcross 17 = .ok (.getfield 52, 3) := by decide +kernel
theorem dX1_leadAcross_20 : decode cX1_leadAcross 20 = .ok (.iload_n 1, 1) := by decide +kernel
theorem dX1_leadAcross_21 : decode cX1_leadAcross 21 = .ok (.invokestatic 45, 3) := by decide +kernel
theorem dX1_leadAcross_24 : decode cX1_leadAcross 24 = .ok (.istore 5, 2) := by decide +kernel
theorem dX1_leadAcross_26 : decode cX1_leadAcross 26 = .ok (.aload_n 0, 1) := by decide +kernel
theorem dX1_leadAcross_27 : decode cX1_leadAcross 27 = .ok (.iload_n 2, 1) := by decide +kernel
theorem dX1_leadAcross_28 : decode cX1_leadAcross 28 = .ok (.iload 4, 2) := by decide +kernel
theorem dX1_leadAcross_30 : decode cX1_leadAcross 30 = .ok (.invokevirtual 74, 3) := by decide +kernel
theorem dX1_leadAcross_33 : decode cX1_leadAcross 33 = .ok (.aload_n 0, 1) := by decide +kernel
theorem dX1_leadAcross_34 : decode cX1_leadAcross 34 = .ok (.getfield 31, 3) := by decide +kernel
theorem dX1_leadAcross_37 : decode cX1_leadAcross 37 = .ok (.getfield 78, 3) := by decide +kernel
theorem dX1_leadAcross_40 : decode cX1_leadAcross 40 = .ok (.iload_n 1, 1) := by decide +kernel
theorem dX1_leadAcross_41 : decode cX1_leadAcross 41 = .ok (.invokestatic 45, 3) := by decide +kernel
theorem dX1_leadAcross_44 : decode cX1_leadAcross 44 = .ok (.iadd, 1) := by decide +kernel
theorem dX1_leadAcross_45 : decode cX1_leadAcross 45 = .ok (.aload_n 0, 1) := by decide +kernel
theorem dX1_leadAcross_46 : decode cX1_leadAcross 46 = .ok (.iload 5, 2) := by decide +kernel
theorem dX1_leadAcross_48 : decode cX1_leadAcross 48 = .ok (.iload_n 3, 1) := by decide +kernel
theorem dX1_leadAcross_49 : decode cX1_leadAcross 49 = .ok (.invokevirtual 74, 3) := by decide +kernel
theorem dX1_leadAcross_52 : decode cX1_leadAcross 52 = .ok (.iadd, 1) := by decide +kernel
theorem dX1_leadAcross_53 : decode cX1_leadAcross 53 = .ok (.istore 6, 2) := by decide +kernel
theorem dX1_leadAcross_55 : decode cX1_leadAcross 55 = .ok (.aload_n 0, 1) := by decide +kernel
theorem dX1_leadAcross_56 : decode cX1_leadAcross 56 = .ok (.getfield 28, 3) := by decide +kernel
theorem dX1_leadAcross_59 : decode cX1_leadAcross 59 = .ok (.bipush 12, 2) := by decide +kernel
theorem dX1_leadAcross_61 : decode cX1_leadAcross 61 = .ok (.iload_n 2, 1) := by decide +kernel
theorem dX1_leadAcross_62 : decode cX1_leadAcross 62 = .ok (.imul, 1) := by decide +kernel
theorem dX1_leadAcross_63 : decode cX1_leadAcross 63 = .ok (.iload_n 3, 1) := by decide +kernel
theorem dX1_leadAcross_64 : decode cX1_leadAcross 64 = .ok (.iadd, 1) := by decide +kernel
theorem dX1_leadAcross_65 : decode cX1_leadAcross 65 = .ok (.iload 6, 2) := by decide +kernel
theorem dX1_leadAcross_67 : decode cX1_leadAcross 67 = .ok (.invokestatic 35, 3) := by decide +kernel
theorem dX1_leadAcross_70 : decode cX1_leadAcross 70 = .ok (.aload_n 0, 1) := by decide +kernel
theorem dX1_leadAcross_71 : decode cX1_leadAcross 71 = .ok (.getfield 28, 3) := by decide +kernel
theorem dX1_leadAcross_74 : decode cX1_leadAcross 74 = .ok (.bipush 12, 2) := by decide +kernel
theorem dX1_leadAcross_76 : decode cX1_leadAcross 76 = .ok (.iload_n 3, 1) := by decide +kernel
theorem dX1_leadAcross_77 : decode cX1_leadAcross 77 = .ok (.imul, 1) := by decide +kernel
theorem dX1_leadAcross_78 : decode cX1_leadAcross 78 = .ok (.iload_n 2, 1) := by decide +kernel
theorem dX1_leadAcross_79 : decode cX1_leadAcross 79 = .ok (.iadd, 1) := by decide +kernel
theorem dX1_leadAcross_80 : decode cX1_leadAcross 80 = .ok (.iload 6, 2) := by decide +kernel
theorem dX1_leadAcross_82 : decode cX1_leadAcross 82 = .ok (.ineg, 1) := by decide +kernel
theorem dX1_leadAcross_83 : decode cX1_leadAcross 83 = .ok (.invokestatic 35, 3) := by decide +kernel
theorem dX1_leadAcross_86 : decode cX1_leadAcross 86 = .ok (.aload_n 0, 1) := by decide +kernel
theorem dX1_leadAcross_87 : decode cX1_leadAcross 87 = .ok (.getfield 25, 3) := by decide +kernel
theorem dX1_leadAcross_90 : decode cX1_leadAcross 90 = .ok (.bipush 12, 2) := by decide +kernel
theorem dX1_leadAcross_92 : decode cX1_leadAcross 92 = .ok (.iload_n 2, 1) := by decide +kernel
theorem dX1_leadAcross_93 : decode cX1_leadAcross 93 = .ok (.imul, 1) := by decide +kernel
theorem dX1_leadAcross_94 : decode cX1_leadAcross 94 = .ok (.iload_n 3, 1) := by decide +kernel
theorem dX1_leadAcross_95 : decode cX1_leadAcross 95 = .ok (.iadd, 1) := by decide +kernel
theorem dX1_leadAcross_96 : decode cX1_leadAcross 96 = .ok (.iload_n 2, 1) := by decide +kernel
theorem dX1_leadAcross_97 : decode cX1_leadAcross 97 = .ok (.iload 4, 2) := by decide +kernel
theorem dX1_leadAcross_99 : decode cX1_leadAcross 99 = .ok (.if_icmp .ne 8, 3) := by decide +kernel
theorem dX1_leadAcross_102 : decode cX1_leadAcross 102 = .ok (.iload 5, 2) := by decide +kernel
theorem dX1_leadAcross_104 : decode cX1_leadAcross 104 = .ok (.goto 10, 3) := by decide +kernel
theorem dX1_leadAcross_107 : decode cX1_leadAcross 107 = .ok (.aload_n 0, 1) := by decide +kernel
theorem dX1_leadAcross_108 : decode cX1_leadAcross 108 = .ok (.iload_n 2, 1) := by decide +kernel
theorem dX1_leadAcross_109 : decode cX1_leadAcross 109 = .ok (.iload 4, 2) := by decide +kernel
theorem dX1_leadAcross_111 : decode cX1_leadAcross 111 = .ok (.invokevirtual 81, 3) := by decide +kernel
theorem dX1_leadAcross_114 : decode cX1_leadAcross 114 = .ok (.invokestatic 35, 3) := by decide +kernel
theorem dX1_leadAcross_117 : decode cX1_leadAcross 117 = .ok (.aload_n 0, 1) := by decide +kernel
theorem dX1_leadAcross_118 : decode cX1_leadAcross 118 = .ok (.getfield 25, 3) := by decide +kernel
theorem dX1_leadAcross_121 : decode cX1_leadAcross 121 = .ok (.bipush 12, 2) := by decide +kernel
theorem dX1_leadAcross_123 : decode cX1_leadAcross 123 = .ok (.iload_n 3, 1) := by decide +kernel
theorem dX1_leadAcross_124 : decode cX1_leadAcross 124 = .ok (.imul, 1) := by decide +kernel
theorem dX1_leadAcross_125 : decode cX1_leadAcross 125 = .ok (.iload_n 2, 1) := by decide +kernel
theorem dX1_leadAcross_126 : decode cX1_leadAcross 126 = .ok (.iadd, 1) := by decide +kernel
theorem dX1_leadAcross_127 : decode cX1_leadAcross 127 = .ok (.iload_n 3, 1) := by decide +kernel
theorem dX1_leadAcross_128 : decode cX1_leadAcross 128 = .ok (.iload 5, 2) := by decide +kernel
theorem dX1_leadAcross_130 : decode cX1_leadAcross 130 = .ok (.if_icmp .ne 8, 3) := by decide +kernel
theorem dX1_leadAcross_133 : decode cX1_leadAcross 133 = .ok (.iload 4, 2) := by decide +kernel
theorem dX1_leadAcross_135 : decode cX1_leadAcross 135 = .ok (.goto 10, 3) := by decide +kernel
theorem dX1_leadAcross_138 : decode cX1_leadAcross 138 = .ok (.aload_n 0, 1) := by decide +kernel
theorem dX1_leadAcross_139 : decode cX1_leadAcross 139 = .ok (.iload_n 3, 1) := by decide +kernel
theorem dX1_leadAcross_140 : decode cX1_leadAcross 140 = .ok (.iload 5, 2) := by decide +kernel
theorem dX1_leadAcross_142 : decode cX1_leadAcross 142 = .ok (.invokevirtual 81, 3) := by decide +kernel
theorem dX1_leadAcross_145 : decode cX1_leadAcross 145 = .ok (.invokestatic 35, 3) := by decide +kernel
theorem dX1_leadAcross_148 : decode cX1_leadAcross 148 = .ok (.return_, 1) := by decide +kernel
def rmX1_leadAcross : Room := rmk 8 0 0 193
theorem nX1_leadAcross : nameOk yX1_leadAcross 3 = true := by decide +kernel
def bX1_leadAcross_0 (J : JT) : List Value → Sem
  | [.ref x0, .int x1, .int x2, .int x3] =>
    gR 1 0 x0 fun r1 =>
    gR 0 8 r1 fun r2 =>
    cI SX10_cell [.ref r2, .int x1] fun v3 =>
    gR 1 0 x0 fun r4 =>
    gR 0 9 r4 fun r5 =>
    cI SX10_cell [.ref r5, .int x1] fun v6 =>
    ob 1 x0 (cI SX1_climbOf [.ref x0, .int x2, .int v3] fun v7 =>
    gR 1 0 x0 fun r8 =>
    gR 0 12 r8 fun r9 =>
    cI SX10_cell [.ref r9, .int x1] fun v10 =>
    ob 1 x0 (cI SX1_climbOf [.ref x0, .int v6, .int x3] fun v11 =>
    lI ((v7 + v10) + v11) fun y6_12 =>
    gR 1 6 x0 fun r13 =>
    cV SX10_put [.ref r13, .int ((12 * x2) + x3), .int y6_12] <|
    gR 1 6 x0 fun r14 =>
    cV SX10_put [.ref r14, .int ((12 * x3) + x2), .int (-y6_12)] <|
    gR 1 5 x0 fun r15 =>
    br (x2 = v3)
    (cV SX10_put [.ref r15, .int ((12 * x2) + x3), .int v6] <|
    gR 1 5 x0 fun r19 =>
    br (x3 = v6)
    (cV SX10_put [.ref r19, .int ((12 * x3) + x2), .int v3] <|
    rV)
    (ob 1 x0 (cI SX1_hop [.ref x0, .int x3, .int v6] fun v20 =>
    cV SX10_put [.ref r19, .int ((12 * x3) + x2), .int v20] <|
    rV)))
    (ob 1 x0 (cI SX1_hop [.ref x0, .int x2, .int v3] fun v16 =>
    cV SX10_put [.ref r15, .int ((12 * x2) + x3), .int v16] <|
    gR 1 5 x0 fun r17 =>
    br (x3 = v6)
    (cV SX10_put [.ref r17, .int ((12 * x3) + x2), .int v3] <|
    rV)
    (ob 1 x0 (cI SX1_hop [.ref x0, .int x3, .int v6] fun v18 =>
    cV SX10_put [.ref r17, .int ((12 * x3) + x2), .int v18] <|
    rV))))))
  | _ => no
def bX1_leadAcross (J : JT) : JT := fun L a => match L with
  | 0 => bX1_leadAcross_0 J a
  | _ => no
def SX1_leadAcross : ST := mk 7 bX1_leadAcross
def lX1_leadAcross (L : Nat) (a : List Value) : Nat × Nat × Nat × List (Nat × Value) × List Value := match L with
  | 0 => (0, 0, 0, lv_args 0 a, [])
  | _ => (0, 0, 0, [], [])
theorem pX1_leadAcross_0 {Γ : CT} (hC : Ctx Γ "SpiritWall$Forest" cX1_leadAcross 7 none rmX1_leadAcross) (hnt : NT Γ) (J : JT) (hJ : ∀ L a, Cor Γ 7 (lX1_leadAcross L a).1 (lX1_leadAcross L a).2.1 (lX1_leadAcross L a).2.2.1 (lX1_leadAcross L a).2.2.2.1 (lX1_leadAcross L a).2.2.2.2 (J L a)) (a : List Value) : Cor Γ 7 0 0 0 (lv_args 0 a) [] (bX1_leadAcross_0 J a) := by
  unfold bX1_leadAcross_0
  split
  · rename_i x0 x1 x2 x3
    refine c_sub [0, 1, 2, 3] rfl (loc' := [(0, .ref x0), (1, .int x1), (2, .int x2), (3, .int x3)]) ?_
    refine q_aload_n hC 0 dX1_leadAcross_0 rfl rfl ?_
    refine q_getR hC (by decide) (by decide) rfl w_108 dX1_leadAcross_1 (fun r1 => ?_)
    refine q_getR hC (by decide) (by decide) rfl w_469 dX1_leadAcross_4 (fun r2 => ?_)
    refine q_iload_n hC 1 dX1_leadAcross_7 rfl rfl ?_
    refine q_cNI hC hnt (stk := []) (as := [.ref r2, .int x1]) sX10_cell nX10_cell rfl w_467 w_202 w_27 w_201 (Nat.le_of_ble_eq_true rfl) dX1_leadAcross_8 rfl (fun v3 => ?_)
    refine q_istoreA hC (loc' := [(4, .int v3), (0, .ref x0), (1, .int x1), (2, .int x2), (3, .int x3)]) dX1_leadAcross_11 (Nat.le_of_ble_eq_true rfl) rfl ?_
    refine q_aload_n hC 1 dX1_leadAcross_13 rfl rfl ?_
    refine q_getR hC (by decide) (by decide) rfl w_108 dX1_leadAcross_14 (fun r4 => ?_)
    refine q_getR hC (by decide) (by decide) rfl w_470 dX1_leadAcross_17 (fun r5 => ?_)
    refine q_iload_n hC 2 dX1_leadAcross_20 rfl rfl ?_
    refine q_cNI hC hnt (stk := []) (as := [.ref r5, .int x1]) sX10_cell nX10_cell rfl w_467 w_202 w_27 w_201 (Nat.le_of_ble_eq_true rfl) dX1_leadAcross_21 rfl (fun v6 => ?_)
    refine q_istoreA hC (loc' := [(5, .int v6), (4, .int v3), (0, .ref x0), (1, .int x1), (2, .int x2), (3, .int x3)]) dX1_leadAcross_24 (Nat.le_of_ble_eq_true rfl) rfl ?_
    refine q_aload_n hC 2 dX1_leadAcross_26 rfl rfl ?_
    refine q_iload_n hC 4 dX1_leadAcross_27 rfl rfl ?_
    refine q_iload hC 1 dX1_leadAcross_28 rfl ?_
    refine q_cVI hC hnt (stk := []) (as := [.int x2, .int v3]) sX1_climbOf (ci := 1) (by decide) rfl nX1_climbOf rfl w_471 w_473 w_474 w_154 w_472 (Nat.le_of_ble_eq_true rfl) dX1_leadAcross_30 rfl (fun v7 => ?_)
    refine q_aload_n hC 2 dX1_leadAcross_33 rfl rfl ?_
    refine q_getR hC (by decide) (by decide) rfl w_108 dX1_leadAcross_34 (fun r8 => ?_)
    refine q_getR hC (by decide) (by decide) rfl w_475 dX1_leadAcross_37 (fun r9 => ?_)
    refine q_iload_n hC 3 dX1_leadAcross_40 rfl rfl ?_
    refine q_cNI hC hnt (stk := [.int v7]) (as := [.ref r9, .int x1]) sX10_cell nX10_cell rfl w_467 w_202 w_27 w_201 (Nat.le_of_ble_eq_true rfl) dX1_leadAcross_41 rfl (fun v10 => ?_)
    refine q_iadd hC dX1_leadAcross_44 ?_
    refine q_aload_n hC 2 dX1_leadAcross_45 rfl rfl ?_
    refine q_iload hC 0 dX1_leadAcross_46 rfl ?_
    refine q_iload_n hC 5 dX1_leadAcross_48 rfl rfl ?_
    refine q_cVI hC hnt (stk := [.int (v7 + v10)]) (as := [.int v6, .int x3]) sX1_climbOf (ci := 1) (by decide) rfl nX1_climbOf rfl w_471 w_473 w_474 w_154 w_472 (Nat.le_of_ble_eq_true rfl) dX1_leadAcross_49 rfl (fun v11 => ?_)
    refine q_iadd hC dX1_leadAcross_52 ?_
    refine q_istore hC (fun y6_12 => [(6, .int y6_12), (5, .int v6), (4, .int v3), (0, .ref x0), (1, .int x1), (2, .int x2), (3, .int x3)]) dX1_leadAcross_53 (Nat.le_of_ble_eq_true rfl) (fun _ => rfl) (fun y6_12 => ?_)
    refine q_aload_n hC 3 dX1_leadAcross_55 rfl rfl ?_
    refine q_getR hC (by decide) (by decide) rfl w_107 dX1_leadAcross_56 (fun r13 => ?_)
    refine q_bipush hC (v := 12) dX1_leadAcross_59 rfl ?_
    refine q_iload_n hC 5 dX1_leadAcross_61 rfl rfl ?_
    refine q_imul hC dX1_leadAcross_62 ?_
    refine q_iload_n hC 6 dX1_leadAcross_63 rfl rfl ?_
    refine q_iadd hC dX1_leadAcross_64 ?_
    refine q_iload hC 0 dX1_leadAcross_65 rfl ?_
    refine q_cNV hC hnt (stk := []) (as := [.ref r13, .int ((12 * x2) + x3), .int y6_12]) sX10_put nX10_put rfl w_468 w_187 w_27 w_186 (Nat.le_of_ble_eq_true rfl) dX1_leadAcross_67 rfl ?_
    refine q_aload_n hC 3 dX1_leadAcross_70 rfl rfl ?_
    refine q_getR hC (by decide) (by decide) rfl w_107 dX1_leadAcross_71 (fun r14 => ?_)
    refine q_bipush hC (v := 12) dX1_leadAcross_74 rfl ?_
    refine q_iload_n hC 6 dX1_leadAcross_76 rfl rfl ?_
    refine q_imul hC dX1_leadAcross_77 ?_
    refine q_iload_n hC 5 dX1_leadAcross_78 rfl rfl ?_
    refine q_iadd hC dX1_leadAcross_79 ?_
    refine q_iload hC 0 dX1_leadAcross_80 rfl ?_
    refine q_ineg hC dX1_leadAcross_82 ?_
    refine q_cNV hC hnt (stk := []) (as := [.ref r14, .int ((12 * x3) + x2), .int (-y6_12)]) sX10_put nX10_put rfl w_468 w_187 w_27 w_186 (Nat.le_of_ble_eq_true rfl) dX1_leadAcross_83 rfl ?_
    refine q_aload_n hC 3 dX1_leadAcross_86 rfl rfl ?_
    refine q_getR hC (by decide) (by decide) rfl w_106 dX1_leadAcross_87 (fun r15 => ?_)
    refine q_bipush hC (v := 12) dX1_leadAcross_90 rfl ?_
    refine q_iload_n hC 5 dX1_leadAcross_92 rfl rfl ?_
    refine q_imul hC dX1_leadAcross_93 ?_
    refine q_iload_n hC 6 dX1_leadAcross_94 rfl rfl ?_
    refine q_iadd hC dX1_leadAcross_95 ?_
    refine q_iload_n hC 5 dX1_leadAcross_96 rfl rfl ?_
    refine q_iload hC 2 dX1_leadAcross_97 rfl ?_
    refine q_ic_ne hC 107 dX1_leadAcross_99 rfl ?_ ?_
    · refine q_aload_n hC 3 dX1_leadAcross_107 rfl rfl ?_
      refine q_iload_n hC 5 dX1_leadAcross_108 rfl rfl ?_
      refine q_iload hC 2 dX1_leadAcross_109 rfl ?_
      refine q_cVI hC hnt (stk := [.int ((12 * x2) + x3), .ref r15]) (as := [.int x2, .int v3]) sX1_hop (ci := 1) (by decide) rfl nX1_hop rfl w_476 w_478 w_479 w_154 w_477 (Nat.le_of_ble_eq_true rfl) dX1_leadAcross_111 rfl (fun v16 => ?_)
      refine q_cNV hC hnt (stk := []) (as := [.ref r15, .int ((12 * x2) + x3), .int v16]) sX10_put nX10_put rfl w_468 w_187 w_27 w_186 (Nat.le_of_ble_eq_true rfl) dX1_leadAcross_114 rfl ?_
      refine q_aload_n hC 3 dX1_leadAcross_117 rfl rfl ?_
      refine q_getR hC (by decide) (by decide) rfl w_106 dX1_leadAcross_118 (fun r17 => ?_)
      refine q_bipush hC (v := 12) dX1_leadAcross_121 rfl ?_
      refine q_iload_n hC 6 dX1_leadAcross_123 rfl rfl ?_
      refine q_imul hC dX1_leadAcross_124 ?_
      refine q_iload_n hC 5 dX1_leadAcross_125 rfl rfl ?_
      refine q_iadd hC dX1_leadAcross_126 ?_
      refine q_iload_n hC 6 dX1_leadAcross_127 rfl rfl ?_
      refine q_iload hC 1 dX1_leadAcross_128 rfl ?_
      refine q_ic_ne hC 138 dX1_leadAcross_130 rfl ?_ ?_
      · refine q_aload_n hC 3 dX1_leadAcross_138 rfl rfl ?_
        refine q_iload_n hC 6 dX1_leadAcross_139 rfl rfl ?_
        refine q_iload hC 1 dX1_leadAcross_140 rfl ?_
        refine q_cVI hC hnt (stk := [.int ((12 * x3) + x2), .ref r17]) (as := [.int x3, .int v6]) sX1_hop (ci := 1) (by decide) rfl nX1_hop rfl w_476 w_478 w_479 w_154 w_477 (Nat.le_of_ble_eq_true rfl) dX1_leadAcross_142 rfl (fun v18 => ?_)
        refine q_cNV hC hnt (stk := []) (as := [.ref r17, .int ((12 * x3) + x2), .int v18]) sX10_put nX10_put rfl w_468 w_187 w_27 w_186 (Nat.le_of_ble_eq_true rfl) dX1_leadAcross_145 rfl ?_
        exact q_vret hC dX1_leadAcross_148 (Nat.le_of_ble_eq_true rfl) (Nat.le_of_ble_eq_true rfl)
      · refine q_iload hC 2 dX1_leadAcross_133 rfl ?_
        refine q_goto hC 145 dX1_leadAcross_135 rfl ?_
        refine q_cNV hC hnt (stk := []) (as := [.ref r17, .int ((12 * x3) + x2), .int v3]) sX10_put nX10_put rfl w_468 w_187 w_27 w_186 (Nat.le_of_ble_eq_true rfl) dX1_leadAcross_145 rfl ?_
        exact q_vret hC dX1_leadAcross_148 (Nat.le_of_ble_eq_true rfl) (Nat.le_of_ble_eq_true rfl)
    · refine q_iload hC 1 dX1_leadAcross_102 rfl ?_
      refine q_goto hC 114 dX1_leadAcross_104 rfl ?_
      refine q_cNV hC hnt (stk := []) (as := [.ref r15, .int ((12 * x2) + x3), .int v6]) sX10_put nX10_put rfl w_468 w_187 w_27 w_186 (Nat.le_of_ble_eq_true rfl) dX1_leadAcross_114 rfl ?_
      refine q_aload_n hC 3 dX1_leadAcross_117 rfl rfl ?_
      refine q_getR hC (by decide) (by decide) rfl w_106 dX1_leadAcross_118 (fun r19 => ?_)
      refine q_bipush hC (v := 12) dX1_leadAcross_121 rfl ?_
      refine q_iload_n hC 6 dX1_leadAcross_123 rfl rfl ?_
      refine q_imul hC dX1_leadAcross_124 ?_
      refine q_iload_n hC 5 dX1_leadAcross_125 rfl rfl ?_
      refine q_iadd hC dX1_leadAcross_126 ?_
      refine q_iload_n hC 6 dX1_leadAcross_127 rfl rfl ?_
      refine q_iload hC 1 dX1_leadAcross_128 rfl ?_
      refine q_ic_ne hC 138 dX1_leadAcross_130 rfl ?_ ?_
      · refine q_aload_n hC 3 dX1_leadAcross_138 rfl rfl ?_
        refine q_iload_n hC 6 dX1_leadAcross_139 rfl rfl ?_
        refine q_iload hC 1 dX1_leadAcross_140 rfl ?_
        refine q_cVI hC hnt (stk := [.int ((12 * x3) + x2), .ref r19]) (as := [.int x3, .int v6]) sX1_hop (ci := 1) (by decide) rfl nX1_hop rfl w_476 w_478 w_479 w_154 w_477 (Nat.le_of_ble_eq_true rfl) dX1_leadAcross_142 rfl (fun v20 => ?_)
        refine q_cNV hC hnt (stk := []) (as := [.ref r19, .int ((12 * x3) + x2), .int v20]) sX10_put nX10_put rfl w_468 w_187 w_27 w_186 (Nat.le_of_ble_eq_true rfl) dX1_leadAcross_145 rfl ?_
        exact q_vret hC dX1_leadAcross_148 (Nat.le_of_ble_eq_true rfl) (Nat.le_of_ble_eq_true rfl)
      · refine q_iload hC 2 dX1_leadAcross_133 rfl ?_
        refine q_goto hC 145 dX1_leadAcross_135 rfl ?_
        refine q_cNV hC hnt (stk := []) (as := [.ref r19, .int ((12 * x3) + x2), .int v3]) sX10_put nX10_put rfl w_468 w_187 w_27 w_186 (Nat.le_of_ble_eq_true rfl) dX1_leadAcross_145 rfl ?_
        exact q_vret hC dX1_leadAcross_148 (Nat.le_of_ble_eq_true rfl) (Nat.le_of_ble_eq_true rfl)
  · exact c_no
theorem sX1_leadAcross : Snd yX1_leadAcross (.code yX1_leadAcross cX1_leadAcross 7 none) rmX1_leadAcross SX1_leadAcross := by
  refine Snd.of lX1_leadAcross (by decide +kernel) (fun _ => rfl) ?_
  intro Γ hC hnt hnm J hJ L a
  match L with
  | 0 => exact pX1_leadAcross_0 hC hnt J hJ a
  | L + 1 => exact c_no
/-! SpiritWall$Forest.merge(II)V -/
theorem dX1_merge_0 : decode cX1_merge 0 = .ok (.iload_n 1, 1) := by decide +kernel
theorem dX1_merge_1 : decode cX1_merge 1 = .ok (.iload_n 2, 1) := by decide +kernel
theorem dX1_merge_2 : decode cX1_merge 2 = .ok (.if_icmp .ge 7, 3) := by decide +kernel
theorem dX1_merge_5 : decode cX1_merge 5 = .ok (.iload_n 1, 1) := by decide +kernel
theorem dX1_merge_6 : decode cX1_merge 6 = .ok (.goto 4, 3) := by decide +kernel
theorem dX1_merge_9 : decode cX1_merge 9 = .ok (.iload_n 2, 1) := by decide +kernel
theorem dX1_merge_10 : decode cX1_merge 10 = .ok (.istore_n 3, 1) := by decide +kernel
theorem dX1_merge_11 : decode cX1_merge 11 = .ok (.iconst 0, 1) := by decide +kernel
theorem dX1_merge_12 : decode cX1_merge 12 = .ok (.istore 4, 2) := by decide +kernel
theorem dX1_merge_14 : decode cX1_merge 14 = .ok (.iload 4, 2) := by decide +kernel
theorem dX1_merge_16 : decode cX1_merge 16 = .ok (.bipush 12, 2) := by decide +kernel
theorem dX1_merge_18 : decode cX1_merge 18 = .ok (.if_icmp .ge 45, 3) := by decide +kernel
theorem dX1_merge_21 : decode cX1_merge 21 = .ok (.aload_n 0, 1) := by decide +kernel
theorem dX1_merge_22 : decode cX1_merge 22 = .ok (.getfield 22, 3) := by decide +kernel
theorem dX1_merge_25 : decode cX1_merge 25 = .ok (.iload 4, 2) := by decide +kernel
theorem dX1_merge_27 : decode cX1_merge 27 = .ok (.invokestatic 45, 3) := by decide +kernel
theorem dX1_merge_30 : decode cX1_merge 30 = .ok (.iload_n 1, 1) := by decide +kernel
theorem dX1_merge_31 : decode cX1_merge 31 = .ok (.if_icmp .eq 16, 3) := by decide +kernel
theorem dX1_merge_34 : decode cX1_merge 34 = .ok (.aload_n 0, 1) := by decide +kernel
theorem dX1_merge_35 : decode cX1_merge 35 = .ok (.getfield 22, 3) := by decide +kernel
theorem dX1_merge_38 : decode cX1_merge 38 = .ok (.iload 4, 2) := by decide +kernel
theorem dX1_merge_40 : decode cX1_merge 40 = .ok (.invokestatic 45, 3) := by decide +kernel
theorem dX1_merge_43 : decode cX1_merge 43 = .ok (.iload_n 2, 1) := by decide +kernel
theorem dX1_merge_44 : decode cX1_merge 44 = .ok (.if_icmp .ne 13, 3) := by decide +kernel
theorem dX1_merge_47 : decode cX1_merge 47 = .ok (.aload_n 0, 1) := by decide +kernel
theorem dX1_merge_48 : decode cX1_merge 48 = .ok (.getfield 22, 3) := by decide +kernel
theorem dX1_merge_51 : decode cX1_merge 51 = .ok (.iload 4, 2) := by decide +kernel
theorem dX1_merge_53 : decode cX1_merge 53 = .ok (.iload_n 3, 1) := by decide +kernel
theorem dX1_merge_54 : decode cX1_merge 54 = .ok (.invokestatic 35, 3) := by decide +kernel
theorem dX1_merge_57 : decode cX1_merge 57 = .ok (.iinc 4 1, 3) := by decide +kernel
theorem dX1_merge_60 : decode cX1_merge 60 = .ok (.goto (-46), 3) := by decide +kernel
theorem dX1_merge_63 : decode cX1_merge 63 = .ok (.return_, 1) := by decide +kernel
def rmX1_merge : Room := rmk 7 0 0 172
theorem nX1_merge : nameOk yX1_merge 2 = true := by decide +kernel
def bX1_merge_0 (J : JT) : List Value → Sem
  | [.ref x0, .int x1, .int x2] =>
    br (x2 ≤ x1)
    (J 1 [.ref x0, .int x1, .int x2, .int x2, .int 0])
    (J 1 [.ref x0, .int x1, .int x2, .int x1, .int 0])
  | _ => no
def bX1_merge_1 (J : JT) : List Value → Sem
  | [.ref x0, .int x1, .int x2, .int x3, .int x4] =>
    br ((12 : Int32) ≤ x4)
    (rV)
    (gR 1 4 x0 fun r1 =>
    cI SX10_cell [.ref r1, .int x4] fun v2 =>
    br (v2 = x1)
    (gR 1 4 x0 fun r3 =>
    cV SX10_put [.ref r3, .int x4, .int x3] <|
    J 1 [.ref x0, .int x1, .int x2, .int x3, .int (x4 + 1)])
    (gR 1 4 x0 fun r4 =>
    cI SX10_cell [.ref r4, .int x4] fun v5 =>
    br (v5 = x2)
    (gR 1 4 x0 fun r6 =>
    cV SX10_put [.ref r6, .int x4, .int x3] <|
    J 1 [.ref x0, .int x1, .int x2, .int x3, .int (x4 + 1)])
    (J 1 [.ref x0, .int x1, .int x2, .int x3, .int (x4 + 1)])))
  | _ => no
def bX1_merge (J : JT) : JT := fun L a => match L with
  | 0 => bX1_merge_0 J a
  | 1 => bX1_merge_1 J a
  | _ => no
def SX1_merge : ST := mk 5 bX1_merge
def lX1_merge (L : Nat) (a : List Value) : Nat × Nat × Nat × List (Nat × Value) × List Value := match L with
  | 0 => (0, 0, 0, lv_args 0 a, [])
  | 1 => (0, 0, 14, List.zip [0, 1, 2, 3, 4] a, [])
  | _ => (0, 0, 0, [], [])
theorem pX1_merge_0 {Γ : CT} (hC : Ctx Γ "SpiritWall$Forest" cX1_merge 5 none rmX1_merge) (hnt : NT Γ) (J : JT) (hJ : ∀ L a, Cor Γ 5 (lX1_merge L a).1 (lX1_merge L a).2.1 (lX1_merge L a).2.2.1 (lX1_merge L a).2.2.2.1 (lX1_merge L a).2.2.2.2 (J L a)) (a : List Value) : Cor Γ 5 0 0 0 (lv_args 0 a) [] (bX1_merge_0 J a) := by
  unfold bX1_merge_0
  split
  · rename_i x0 x1 x2
    refine c_sub [0, 1, 2] rfl (loc' := [(0, .ref x0), (1, .int x1), (2, .int x2)]) ?_
    refine q_iload_n hC 1 dX1_merge_0 rfl rfl ?_
    refine q_iload_n hC 2 dX1_merge_1 rfl rfl ?_
    refine q_ic_ge hC 9 dX1_merge_2 rfl ?_ ?_
    · refine q_iload_n hC 2 dX1_merge_9 rfl rfl ?_
      refine q_istore_nA hC (loc' := [(3, .int x2), (0, .ref x0), (1, .int x1), (2, .int x2)]) dX1_merge_10 rfl (Nat.le_of_ble_eq_true rfl) rfl ?_
      refine q_iconst hC dX1_merge_11 rfl ?_
      refine q_istoreA hC (loc' := [(4, .int 0), (3, .int x2), (0, .ref x0), (1, .int x1), (2, .int x2)]) dX1_merge_12 (Nat.le_of_ble_eq_true rfl) rfl ?_
      exact c_sub [2, 3, 4, 1, 0] rfl (hJ 1 [.ref x0, .int x1, .int x2, .int x2, .int 0])
    · refine q_iload_n hC 1 dX1_merge_5 rfl rfl ?_
      refine q_goto hC 10 dX1_merge_6 rfl ?_
      refine q_istore_nA hC (loc' := [(3, .int x1), (0, .ref x0), (1, .int x1), (2, .int x2)]) dX1_merge_10 rfl (Nat.le_of_ble_eq_true rfl) rfl ?_
      refine q_iconst hC dX1_merge_11 rfl ?_
      refine q_istoreA hC (loc' := [(4, .int 0), (3, .int x1), (0, .ref x0), (1, .int x1), (2, .int x2)]) dX1_merge_12 (Nat.le_of_ble_eq_true rfl) rfl ?_
      exact c_sub [2, 3, 4, 1, 0] rfl (hJ 1 [.ref x0, .int x1, .int x2, .int x1, .int 0])
  · exact c_no
theorem pX1_merge_1 {Γ : CT} (hC : Ctx Γ "SpiritWall$Forest" cX1_merge 5 none rmX1_merge) (hnt : NT Γ) (J : JT) (hJ : ∀ L a, Cor Γ 5 (lX1_merge L a).1 (lX1_merge L a).2.1 (lX1_merge L a).2.2.1 (lX1_merge L a).2.2.2.1 (lX1_merge L a).2.2.2.2 (J L a)) (a : List Value) : Cor Γ 5 0 0 14 (List.zip [0, 1, 2, 3, 4] a) [] (bX1_merge_1 J a) := by
  unfold bX1_merge_1
  split
  · rename_i x0 x1 x2 x3 x4
    refine c_sub [0, 1, 2, 3, 4] rfl (loc' := [(0, .ref x0), (1, .int x1), (2, .int x2), (3, .int x3), (4, .int x4)]) ?_
    refine q_iload hC 4 dX1_merge_14 rfl ?_
    refine q_bipush hC (v := 12) dX1_merge_16 rfl ?_
    refine q_ic_ge hC 63 dX1_merge_18 rfl ?_ ?_
    · exact q_vret hC dX1_merge_63 (Nat.le_of_ble_eq_true rfl) (Nat.le_of_ble_eq_true rfl)
    · refine q_aload_n hC 0 dX1_merge_21 rfl rfl ?_
      refine q_getR hC (by decide) (by decide) rfl w_105 dX1_merge_22 (fun r1 => ?_)
      refine q_iload hC 4 dX1_merge_25 rfl ?_
      refine q_cNI hC hnt (stk := []) (as := [.ref r1, .int x4]) sX10_cell nX10_cell rfl w_467 w_202 w_27 w_201 (Nat.le_of_ble_eq_true rfl) dX1_merge_27 rfl (fun v2 => ?_)
      refine q_iload_n hC 1 dX1_merge_30 rfl rfl ?_
      refine q_ic_eq hC 47 dX1_merge_31 rfl ?_ ?_
      · refine q_aload_n hC 0 dX1_merge_47 rfl rfl ?_
        refine q_getR hC (by decide) (by decide) rfl w_105 dX1_merge_48 (fun r3 => ?_)
        refine q_iload hC 4 dX1_merge_51 rfl ?_
        refine q_iload_n hC 3 dX1_merge_53 rfl rfl ?_
        refine q_cNV hC hnt (stk := []) (as := [.ref r3, .int x4, .int x3]) sX10_put nX10_put rfl w_468 w_187 w_27 w_186 (Nat.le_of_ble_eq_true rfl) dX1_merge_54 rfl ?_
        refine q_iincA hC (loc' := [(4, .int (x4 + 1)), (0, .ref x0), (1, .int x1), (2, .int x2), (3, .int x3)]) 4 1 dX1_merge_57 rfl rfl (Nat.le_of_ble_eq_true rfl) rfl ?_
        refine q_goto hC 14 dX1_merge_60 rfl ?_
        exact c_sub [1, 2, 3, 4, 0] rfl (hJ 1 [.ref x0, .int x1, .int x2, .int x3, .int (x4 + 1)])
      · refine q_aload_n hC 0 dX1_merge_34 rfl rfl ?_
        refine q_getR hC (by decide) (by decide) rfl w_105 dX1_merge_35 (fun r4 => ?_)
        refine q_iload hC 4 dX1_merge_38 rfl ?_
        refine q_cNI hC hnt (stk := []) (as := [.ref r4, .int x4]) sX10_cell nX10_cell rfl w_467 w_202 w_27 w_201 (Nat.le_of_ble_eq_true rfl) dX1_merge_40 rfl (fun v5 => ?_)
        refine q_iload_n hC 2 dX1_merge_43 rfl rfl ?_
        refine q_ic_ne hC 57 dX1_merge_44 rfl ?_ ?_
        · refine q_iincA hC (loc' := [(4, .int (x4 + 1)), (0, .ref x0), (1, .int x1), (2, .int x2), (3, .int x3)]) 4 1 dX1_merge_57 rfl rfl (Nat.le_of_ble_eq_true rfl) rfl ?_
          refine q_goto hC 14 dX1_merge_60 rfl ?_
          exact c_sub [1, 2, 3, 4, 0] rfl (hJ 1 [.ref x0, .int x1, .int x2, .int x3, .int (x4 + 1)])
        · refine q_aload_n hC 0 dX1_merge_47 rfl rfl ?_
          refine q_getR hC (by decide) (by decide) rfl w_105 dX1_merge_48 (fun r6 => ?_)
          refine q_iload hC 4 dX1_merge_51 rfl ?_
          refine q_iload_n hC 3 dX1_merge_53 rfl rfl ?_
          refine q_cNV hC hnt (stk := []) (as := [.ref r6, .int x4, .int x3]) sX10_put nX10_put rfl w_468 w_187 w_27 w_186 (Nat.le_of_ble_eq_true rfl) dX1_merge_54 rfl ?_
          refine q_iincA hC (loc' := [(4, .int (x4 + 1)), (0, .ref x0), (1, .int x1), (2, .int x2), (3, .int x3)]) 4 1 dX1_merge_57 rfl rfl (Nat.le_of_ble_eq_true rfl) rfl ?_
          refine q_goto hC 14 dX1_merge_60 rfl ?_
          exact c_sub [1, 2, 3, 4, 0] rfl (hJ 1 [.ref x0, .int x1, .int x2, .int x3, .int (x4 + 1)])
  · exact c_no
theorem sX1_merge : Snd yX1_merge (.code yX1_merge cX1_merge 5 none) rmX1_merge SX1_merge := by
  refine Snd.of lX1_merge (by decide +kernel) (fun _ => rfl) ?_
  intro Γ hC hnt hnm J hJ L a
  match L with
  | 0 => exact pX1_merge_0 hC hnt J hJ a
  | 1 => exact pX1_merge_1 hC hnt J hJ a
  | L + 2 => exact c_no
/-! SpiritWall$Forest.take(I)V -/
theorem dX1_take_0 : decode cX1_take 0 = .ok (.aload_n 0, 1) := by decide +kernel
theorem dX1_take_1 : decode cX1_take 1 = .ok (.getfield 22, 3) := by decide +kernel
theorem dX1_take_4 : decode cX1_take 4 = .ok (.aload_n 0, 1) := by decide +kernel
theorem dX1_take_5 : decode cX1_take 5 = .ok (.getfield 31, 3) := by decide +kernel
theorem dX1_take_8 : decode cX1_take 8 = .ok (.getfield 49, 3) := by decide +kernel
theorem dX1_take_11 : decode cX1_take 11 = .ok (.iload_n 1, 1) := by decide +kernel
theorem dX1_take_12 : decode cX1_take 12 = .ok (.invokestatic 45, 3) := by decide +kernel
theorem dX1_take_15 : decode cX1_take 15 = .ok (.invokestatic 45, 3) := by decide +kernel
theorem dX1_take_18 : decode cX1_take 18 = .ok (.istore_n 2, 1) := by decide +kernel
theorem dX1_take_19 : decode cX1_take 19 = .ok (.aload_n 0, 1) := by decide +kernel
theorem dX1_take_20 : decode cX1_take 20 = .ok (.getfield 22, 3) := by decide +kernel
theorem dX1_take_23 : decode cX1_take 23 = .ok (.aload_n 0, 1) := by decide +kernel
theorem dX1_take_24 : decode cX1_take 24 = .ok (.getfield 31, 3) := by decide +kernel
theorem dX1_take_27 : decode cX1_take 27 = .ok (.getfield 52, 3) := by decide +kernel
theorem dX1_take_30 : decode cX1_take 30 = .ok (.iload_n 1, 1) := by decide +kernel
theorem dX1_take_31 : decode cX1_take 31 = .ok (.invokestatic 45, 3) := by decide +kernel
theorem dX1_take_34 : decode cX1_take 34 = .ok (.invokestatic 45, 3) := by decide +kernel
theorem dX1_take_37 : decode cX1_take 37 = .ok (.istore_n 3, 1) := by decide +kernel
theorem dX1_take_38 : decode cX1_take 38 = .ok (.iconst 0, 1) := by decide +kernel
theorem dX1_take_39 : decode cX1_take 39 = .ok (.istore 4, 2) := by decide +kernel
theorem dX1_take_41 : decode cX1_take 41 = .ok (.iload 4, 2) := by decide +kernel
theorem dX1_take_43 : decode cX1_take 43 = .ok (.bipush 12, 2) := by decide +kernel
theorem dX1_take_45 : decode cX1_take 45 = .ok (.if_icmp .ge 63, 3) := by decide +kernel
theorem dX1_take_48 : decode cX1_take 48 = .ok (.aload_n 0, 1) := by decide +kernel
theorem dX1_take_49 : decode cX1_take 49 = .ok (.getfield 22, 3) := by decide +kernel
theorem dX1_take_52 : decode cX1_take 52 = .ok (.iload 4, 2) := by decide +kernel
theorem dX1_take_54 : decode cX1_take 54 = .ok (.invokestatic 45, 3) := by decide +kernel
theorem dX1_take_57 : decode cX1_take 57 = .ok (.iload_n 2, 1) := by decide +kernel
theorem dX1_take_58 : decode cX1_take 58 = .ok (.if_icmp .eq 6, 3) := by decide +kernel
theorem dX1_take_61 : decode cX1_take 61 = .ok (.goto 41, 3) := by decide +kernel
theorem dX1_take_64 : decode cX1_take 64 = .ok (.iconst 0, 1) := by decide +kernel
theorem dX1_take_65 : decode cX1_take 65 = .ok (.istore 5, 2) := by decide +kernel
theorem dX1_take_67 : decode cX1_take 67 = .ok (.iload 5, 2) := by decide +kernel
theorem dX1_take_69 : decode cX1_take 69 = .ok (.bipush 12, 2) := by decide +kernel
theorem dX1_take_71 : decode cX1_take 71 = .ok (.if_icmp .ge 31, 3) := by decide +kernel
theorem dX1_take_74 : decode cX1_take 74 = .ok (.aload_n 0, 1) := by decide +kernel
theorem dX1_take_75 : decode cX1_take 75 = .ok (.getfield 22, 3) := by decide +kernel
theorem dX1_take_78 : decode cX1_take 78 = .ok (.iload 5, 2) := by decide +kernel
theorem dX1_take_80 : decode cX1_take 80 = .ok (.invokestatic 45, 3) := by decide +kernel
theorem dX1_take_83 : decode cX1_take 83 = .ok (.iload_n 3, 1) := by decide +kernel
theorem dX1_take_84 : decode cX1_take 84 = .ok (.if_icmp .ne 12, 3) := by decide +kernel
theorem dX1_take_87 : decode cX1_take 87 = .ok (.aload_n 0, 1) := by decide +kernel
theorem dX1_take_88 : decode cX1_take 88 = .ok (.iload_n 1, 1) := by decide +kernel
theorem dX1_take_89 : decode cX1_take 89 = .ok (.iload 4, 2) := by decide +kernel
theorem dX1_take_91 : decode cX1_take 91 = .ok (.iload 5, 2) := by decide +kernel
theorem dX1_take_93 : decode cX1_take 93 = .ok (.invokevirtual 66, 3) := by decide +kernel
theorem dX1_take_96 : decode cX1_take 96 = .ok (.iinc 5 1, 3) := by decide +kernel
theorem dX1_take_99 : decode cX1_take 99 = .ok (.goto (-32), 3) := by decide +kernel
theorem dX1_take_102 : decode cX1_take 102 = .ok (.iinc 4 1, 3) := by decide +kernel
theorem dX1_take_105 : decode cX1_take 105 = .ok (.goto (-64), 3) := by decide +kernel
theorem dX1_take_108 : decode cX1_take 108 = .ok (.aload_n 0, 1) := by decide +kernel
theorem dX1_take_109 : decode cX1_take 109 = .ok (.iload_n 2, 1) := by decide +kernel
theorem dX1_take_110 : decode cX1_take 110 = .ok (.iload_n 3, 1) := by decide +kernel
theorem dX1_take_111 : decode cX1_take 111 = .ok (.invokevirtual 70, 3) := by decide +kernel
theorem dX1_take_114 : decode cX1_take 114 = .ok (.aload_n 0, 1) := by decide +kernel
theorem dX1_take_115 : decode cX1_take 115 = .ok (.dup, 1) := by decide +kernel
theorem dX1_take_116 : decode cX1_take 116 = .ok (.getfield 9, 3) := by decide +kernel
theorem dX1_take_119 : decode cX1_take 119 = .ok (.iconst 1, 1) := by decide +kernel
theorem dX1_take_120 : decode cX1_take 120 = .ok (.iadd, 1) := by decide +kernel
theorem dX1_take_121 : decode cX1_take 121 = .ok (.putfield 9, 3) := by decide +kernel
theorem dX1_take_124 : decode cX1_take 124 = .ok (.return_, 1) := by decide +kernel
def rmX1_take : Room := rmk 9 0 0 219
theorem nX1_take : nameOk yX1_take 1 = true := by decide +kernel
def bX1_take_0 (J : JT) : List Value → Sem
  | [.ref x0, .int x1] =>
    gR 1 4 x0 fun r1 =>
    gR 1 0 x0 fun r2 =>
    gR 0 8 r2 fun r3 =>
    cI SX10_cell [.ref r3, .int x1] fun v4 =>
    cI SX10_cell [.ref r1, .int v4] fun v5 =>
    gR 1 4 x0 fun r6 =>
    gR 1 0 x0 fun r7 =>
    gR 0 9 r7 fun r8 =>
    cI SX10_cell [.ref r8, .int x1] fun v9 =>
    cI SX10_cell [.ref r6, .int v9] fun v10 =>
    J 1 [.ref x0, .int x1, .int v5, .int v10, .int 0]
  | _ => no
def bX1_take_1 (J : JT) : List Value → Sem
  | [.ref x0, .int x1, .int x2, .int x3, .int x4] =>
    br ((12 : Int32) ≤ x4)
    (ob 1 x0 (cV SX1_merge [.ref x0, .int x2, .int x3] <|
    gI 1 1 x0 fun v1 =>
    pI 1 1 x0 (v1 + 1) <|
    rV))
    (gR 1 4 x0 fun r2 =>
    cI SX10_cell [.ref r2, .int x4] fun v3 =>
    br (v3 = x2)
    (J 2 [.ref x0, .int x1, .int x2, .int x3, .int x4, .int 0])
    (J 1 [.ref x0, .int x1, .int x2, .int x3, .int (x4 + 1)]))
  | _ => no
def bX1_take_2 (J : JT) : List Value → Sem
  | [.ref x0, .int x1, .int x2, .int x3, .int x4, .int x5] =>
    br ((12 : Int32) ≤ x5)
    (J 1 [.ref x0, .int x1, .int x2, .int x3, .int (x4 + 1)])
    (gR 1 4 x0 fun r1 =>
    cI SX10_cell [.ref r1, .int x5] fun v2 =>
    br (v2 = x3)
    (ob 1 x0 (cV SX1_leadAcross [.ref x0, .int x1, .int x4, .int x5] <|
    J 2 [.ref x0, .int x1, .int x2, .int x3, .int x4, .int (x5 + 1)]))
    (J 2 [.ref x0, .int x1, .int x2, .int x3, .int x4, .int (x5 + 1)]))
  | _ => no
def bX1_take (J : JT) : JT := fun L a => match L with
  | 0 => bX1_take_0 J a
  | 1 => bX1_take_1 J a
  | 2 => bX1_take_2 J a
  | _ => no
def SX1_take : ST := mk 6 bX1_take
def lX1_take (L : Nat) (a : List Value) : Nat × Nat × Nat × List (Nat × Value) × List Value := match L with
  | 0 => (0, 0, 0, lv_args 0 a, [])
  | 1 => (0, 0, 41, List.zip [0, 1, 2, 3, 4] a, [])
  | 2 => (0, 0, 67, List.zip [0, 1, 2, 3, 4, 5] a, [])
  | _ => (0, 0, 0, [], [])
theorem pX1_take_0 {Γ : CT} (hC : Ctx Γ "SpiritWall$Forest" cX1_take 6 none rmX1_take) (hnt : NT Γ) (J : JT) (hJ : ∀ L a, Cor Γ 6 (lX1_take L a).1 (lX1_take L a).2.1 (lX1_take L a).2.2.1 (lX1_take L a).2.2.2.1 (lX1_take L a).2.2.2.2 (J L a)) (a : List Value) : Cor Γ 6 0 0 0 (lv_args 0 a) [] (bX1_take_0 J a) := by
  unfold bX1_take_0
  split
  · rename_i x0 x1
    refine c_sub [0, 1] rfl (loc' := [(0, .ref x0), (1, .int x1)]) ?_
    refine q_aload_n hC 0 dX1_take_0 rfl rfl ?_
    refine q_getR hC (by decide) (by decide) rfl w_105 dX1_take_1 (fun r1 => ?_)
    refine q_aload_n hC 0 dX1_take_4 rfl rfl ?_
    refine q_getR hC (by decide) (by decide) rfl w_108 dX1_take_5 (fun r2 => ?_)
    refine q_getR hC (by decide) (by decide) rfl w_469 dX1_take_8 (fun r3 => ?_)
    refine q_iload_n hC 1 dX1_take_11 rfl rfl ?_
    refine q_cNI hC hnt (stk := [.ref r1]) (as := [.ref r3, .int x1]) sX10_cell nX10_cell rfl w_467 w_202 w_27 w_201 (Nat.le_of_ble_eq_true rfl) dX1_take_12 rfl (fun v4 => ?_)
    refine q_cNI hC hnt (stk := []) (as := [.ref r1, .int v4]) sX10_cell nX10_cell rfl w_467 w_202 w_27 w_201 (Nat.le_of_ble_eq_true rfl) dX1_take_15 rfl (fun v5 => ?_)
    refine q_istore_nA hC (loc' := [(2, .int v5), (0, .ref x0), (1, .int x1)]) dX1_take_18 rfl (Nat.le_of_ble_eq_true rfl) rfl ?_
    refine q_aload_n hC 1 dX1_take_19 rfl rfl ?_
    refine q_getR hC (by decide) (by decide) rfl w_105 dX1_take_20 (fun r6 => ?_)
    refine q_aload_n hC 1 dX1_take_23 rfl rfl ?_
    refine q_getR hC (by decide) (by decide) rfl w_108 dX1_take_24 (fun r7 => ?_)
    refine q_getR hC (by decide) (by decide) rfl w_470 dX1_take_27 (fun r8 => ?_)
    refine q_iload_n hC 2 dX1_take_30 rfl rfl ?_
    refine q_cNI hC hnt (stk := [.ref r6]) (as := [.ref r8, .int x1]) sX10_cell nX10_cell rfl w_467 w_202 w_27 w_201 (Nat.le_of_ble_eq_true rfl) dX1_take_31 rfl (fun v9 => ?_)
    refine q_cNI hC hnt (stk := []) (as := [.ref r6, .int v9]) sX10_cell nX10_cell rfl w_467 w_202 w_27 w_201 (Nat.le_of_ble_eq_true rfl) dX1_take_34 rfl (fun v10 => ?_)
    refine q_istore_nA hC (loc' := [(3, .int v10), (2, .int v5), (0, .ref x0), (1, .int x1)]) dX1_take_37 rfl (Nat.le_of_ble_eq_true rfl) rfl ?_
    refine q_iconst hC dX1_take_38 rfl ?_
    refine q_istoreA hC (loc' := [(4, .int 0), (3, .int v10), (2, .int v5), (0, .ref x0), (1, .int x1)]) dX1_take_39 (Nat.le_of_ble_eq_true rfl) rfl ?_
    exact c_sub [3, 4, 2, 1, 0] rfl (hJ 1 [.ref x0, .int x1, .int v5, .int v10, .int 0])
  · exact c_no
theorem pX1_take_1 {Γ : CT} (hC : Ctx Γ "SpiritWall$Forest" cX1_take 6 none rmX1_take) (hnt : NT Γ) (J : JT) (hJ : ∀ L a, Cor Γ 6 (lX1_take L a).1 (lX1_take L a).2.1 (lX1_take L a).2.2.1 (lX1_take L a).2.2.2.1 (lX1_take L a).2.2.2.2 (J L a)) (a : List Value) : Cor Γ 6 0 0 41 (List.zip [0, 1, 2, 3, 4] a) [] (bX1_take_1 J a) := by
  unfold bX1_take_1
  split
  · rename_i x0 x1 x2 x3 x4
    refine c_sub [0, 1, 2, 3, 4] rfl (loc' := [(0, .ref x0), (1, .int x1), (2, .int x2), (3, .int x3), (4, .int x4)]) ?_
    refine q_iload hC 4 dX1_take_41 rfl ?_
    refine q_bipush hC (v := 12) dX1_take_43 rfl ?_
    refine q_ic_ge hC 108 dX1_take_45 rfl ?_ ?_
    · refine q_aload_n hC 0 dX1_take_108 rfl rfl ?_
      refine q_iload_n hC 2 dX1_take_109 rfl rfl ?_
      refine q_iload_n hC 3 dX1_take_110 rfl rfl ?_
      refine q_cVV hC hnt (stk := []) (as := [.int x2, .int x3]) sX1_merge (ci := 1) (by decide) rfl nX1_merge rfl w_480 w_482 w_483 w_154 w_481 (Nat.le_of_ble_eq_true rfl) dX1_take_111 rfl ?_
      refine q_aload_n hC 0 dX1_take_114 rfl rfl ?_
      refine q_dup hC dX1_take_115 ?_
      refine q_getI hC (by decide) (by decide) rfl w_102 dX1_take_116 (fun v1 => ?_)
      refine q_iconst hC dX1_take_119 rfl ?_
      refine q_iadd hC dX1_take_120 ?_
      refine q_putI hC (by decide) (by decide) rfl rfl w_102 dX1_take_121 ?_
      exact q_vret hC dX1_take_124 (Nat.le_of_ble_eq_true rfl) (Nat.le_of_ble_eq_true rfl)
    · refine q_aload_n hC 0 dX1_take_48 rfl rfl ?_
      refine q_getR hC (by decide) (by decide) rfl w_105 dX1_take_49 (fun r2 => ?_)
      refine q_iload hC 4 dX1_take_52 rfl ?_
      refine q_cNI hC hnt (stk := []) (as := [.ref r2, .int x4]) sX10_cell nX10_cell rfl w_467 w_202 w_27 w_201 (Nat.le_of_ble_eq_true rfl) dX1_take_54 rfl (fun v3 => ?_)
      refine q_iload_n hC 2 dX1_take_57 rfl rfl ?_
      refine q_ic_eq hC 64 dX1_take_58 rfl ?_ ?_
      · refine q_iconst hC dX1_take_64 rfl ?_
        refine q_istoreA hC (loc' := [(5, .int 0), (0, .ref x0), (1, .int x1), (2, .int x2), (3, .int x3), (4, .int x4)]) dX1_take_65 (Nat.le_of_ble_eq_true rfl) rfl ?_
        exact c_sub [1, 2, 3, 4, 5, 0] rfl (hJ 2 [.ref x0, .int x1, .int x2, .int x3, .int x4, .int 0])
      · refine q_goto hC 102 dX1_take_61 rfl ?_
        refine q_iincA hC (loc' := [(4, .int (x4 + 1)), (0, .ref x0), (1, .int x1), (2, .int x2), (3, .int x3)]) 4 1 dX1_take_102 rfl rfl (Nat.le_of_ble_eq_true rfl) rfl ?_
        refine q_goto hC 41 dX1_take_105 rfl ?_
        exact c_sub [1, 2, 3, 4, 0] rfl (hJ 1 [.ref x0, .int x1, .int x2, .int x3, .int (x4 + 1)])
  · exact c_no
theorem pX1_take_2 {Γ : CT} (hC : Ctx Γ "SpiritWall$Forest" cX1_take 6 none rmX1_take) (hnt : NT Γ) (J : JT) (hJ : ∀ L a, Cor Γ 6 (lX1_take L a).1 (lX1_take L a).2.1 (lX1_take L a).2.2.1 (lX1_take L a).2.2.2.1 (lX1_take L a).2.2.2.2 (J L a)) (a : List Value) : Cor Γ 6 0 0 67 (List.zip [0, 1, 2, 3, 4, 5] a) [] (bX1_take_2 J a) := by
  unfold bX1_take_2
  split
  · rename_i x0 x1 x2 x3 x4 x5
    refine c_sub [0, 1, 2, 3, 4, 5] rfl (loc' := [(0, .ref x0), (1, .int x1), (2, .int x2), (3, .int x3), (4, .int x4), (5, .int x5)]) ?_
    refine q_iload hC 5 dX1_take_67 rfl ?_
    refine q_bipush hC (v := 12) dX1_take_69 rfl ?_
    refine q_ic_ge hC 102 dX1_take_71 rfl ?_ ?_
    · refine q_iincA hC (loc' := [(4, .int (x4 + 1)), (0, .ref x0), (1, .int x1), (2, .int x2), (3, .int x3), (5, .int x5)]) 4 1 dX1_take_102 rfl rfl (Nat.le_of_ble_eq_true rfl) rfl ?_
      refine q_goto hC 41 dX1_take_105 rfl ?_
      exact c_sub [1, 2, 3, 4, 0] rfl (hJ 1 [.ref x0, .int x1, .int x2, .int x3, .int (x4 + 1)])
    · refine q_aload_n hC 0 dX1_take_74 rfl rfl ?_
      refine q_getR hC (by decide) (by decide) rfl w_105 dX1_take_75 (fun r1 => ?_)
      refine q_iload hC 5 dX1_take_78 rfl ?_
      refine q_cNI hC hnt (stk := []) (as := [.ref r1, .int x5]) sX10_cell nX10_cell rfl w_467 w_202 w_27 w_201 (Nat.le_of_ble_eq_true rfl) dX1_take_80 rfl (fun v2 => ?_)
      refine q_iload_n hC 3 dX1_take_83 rfl rfl ?_
      refine q_ic_ne hC 96 dX1_take_84 rfl ?_ ?_
      · refine q_iincA hC (loc' := [(5, .int (x5 + 1)), (0, .ref x0), (1, .int x1), (2, .int x2), (3, .int x3), (4, .int x4)]) 5 1 dX1_take_96 rfl rfl (Nat.le_of_ble_eq_true rfl) rfl ?_
        refine q_goto hC 67 dX1_take_99 rfl ?_
        exact c_sub [1, 2, 3, 4, 5, 0] rfl (hJ 2 [.ref x0, .int x1, .int x2, .int x3, .int x4, .int (x5 + 1)])
      · refine q_aload_n hC 0 dX1_take_87 rfl rfl ?_
        refine q_iload_n hC 1 dX1_take_88 rfl rfl ?_
        refine q_iload hC 4 dX1_take_89 rfl ?_
        refine q_iload hC 5 dX1_take_91 rfl ?_
        refine q_cVV hC hnt (stk := []) (as := [.int x1, .int x4, .int x5]) sX1_leadAcross (ci := 1) (by decide) rfl nX1_leadAcross rfl w_484 w_486 w_487 w_154 w_485 (Nat.le_of_ble_eq_true rfl) dX1_take_93 rfl ?_
        refine q_iincA hC (loc' := [(5, .int (x5 + 1)), (0, .ref x0), (1, .int x1), (2, .int x2), (3, .int x3), (4, .int x4)]) 5 1 dX1_take_96 rfl rfl (Nat.le_of_ble_eq_true rfl) rfl ?_
        refine q_goto hC 67 dX1_take_99 rfl ?_
        exact c_sub [1, 2, 3, 4, 5, 0] rfl (hJ 2 [.ref x0, .int x1, .int x2, .int x3, .int x4, .int (x5 + 1)])
  · exact c_no
theorem sX1_take : Snd yX1_take (.code yX1_take cX1_take 6 none) rmX1_take SX1_take := by
  refine Snd.of lX1_take (by decide +kernel) (fun _ => rfl) ?_
  intro Γ hC hnt hnm J hJ L a
  match L with
  | 0 => exact pX1_take_0 hC hnt J hJ a
  | 1 => exact pX1_take_1 hC hnt J hJ a
  | 2 => exact pX1_take_2 hC hnt J hJ a
  | L + 3 => exact c_no
/-! SpiritWall$Forest.grow()V -/
theorem dX1_grow_0 : decode cX1_grow 0 = .ok (.aload_n 0, 1) := by decide +kernel
theorem dX1_grow_1 : decode cX1_grow 1 = .ok (.iconst 0, 1) := by decide +kernel
theorem dX1_grow_2 : decode cX1_grow 2 = .ok (.putfield 9, 3) := by decide +kernel
theorem dX1_grow_5 : decode cX1_grow 5 = .ok (.iconst 0, 1) := by decide +kernel
theorem dX1_grow_6 : decode cX1_grow 6 = .ok (.istore_n 1, 1) := by decide +kernel
theorem dX1_grow_7 : decode cX1_grow 7 = .ok (.iload_n 1, 1) := by decide +kernel
theorem dX1_grow_8 : decode cX1_grow 8 = .ok (.bipush 12, 2) := by decide +kernel
theorem dX1_grow_10 : decode cX1_grow 10 = .ok (.if_icmp .ge 18, 3) := by decide +kernel
theorem dX1_grow_13 : decode cX1_grow 13 = .ok (.aload_n 0, 1) := by decide +kernel
theorem dX1_grow_14 : decode cX1_grow 14 = .ok (.getfield 22, 3) := by decide +kernel
theorem dX1_grow_17 : decode cX1_grow 17 = .ok (.iload_n 1, 1) := by decide +kernel
theorem dX1_grow_18 : decode cX1_grow 18 = .ok (.iload_n 1, 1) := by decide +kernel
theorem dX1_grow_19 : decode cX1_grow 19 = .ok (.invokestatic 35, 3) := by decide +kernel
theorem dX1_grow_22 : decode cX1_grow 22 = .ok (.iinc 1 1, 3) := by decide +kernel
theorem dX1_grow_25 : decode cX1_grow 25 = .ok (.goto (-18), 3) := by decide +kernel
theorem dX1_grow_28 : decode cX1_grow 28 = .ok (.aload_n 0, 1) := by decide +kernel
theorem dX1_grow_29 : decode cX1_grow 29 = .ok (.invokevirtual 39, 3) := by decide +kernel
theorem dX1_grow_32 : decode cX1_grow 32 = .ok (.iconst 0, 1) := by decide +kernel
theorem dX1_grow_33 : decode cX1_grow 33 = .ok (.istore_n 1, 1) := by decide +kernel
theorem dX1_grow_34 : decode cX1_grow 34 = .ok (.iload_n 1, 1) := by decide +kernel
theorem dX1_grow_35 : decode cX1_grow 35 = .ok (.aload_n 0, 1) := by decide +kernel
theorem dX1_grow_36 : decode cX1_grow 36 = .ok (.getfield 31, 3) := by decide +kernel
theorem dX1_grow_39 : decode cX1_grow 39 = .ok (.getfield 42, 3) := by decide +kernel
theorem dX1_grow_42 : decode cX1_grow 42 = .ok (.if_icmp .ge 79, 3) := by decide +kernel
theorem dX1_grow_45 : decode cX1_grow 45 = .ok (.aload_n 0, 1) := by decide +kernel
theorem dX1_grow_46 : decode cX1_grow 46 = .ok (.getfield 15, 3) := by decide +kernel
theorem dX1_grow_49 : decode cX1_grow 49 = .ok (.iload_n 1, 1) := by decide +kernel
theorem dX1_grow_50 : decode cX1_grow 50 = .ok (.invokestatic 45, 3) := by decide +kernel
theorem dX1_grow_53 : decode cX1_grow 53 = .ok (.istore_n 2, 1) := by decide +kernel
theorem dX1_grow_54 : decode cX1_grow 54 = .ok (.aload_n 0, 1) := by decide +kernel
theorem dX1_grow_55 : decode cX1_grow 55 = .ok (.aload_n 0, 1) := by decide +kernel
theorem dX1_grow_56 : decode cX1_grow 56 = .ok (.getfield 31, 3) := by decide +kernel
theorem dX1_grow_59 : decode cX1_grow 59 = .ok (.getfield 49, 3) := by decide +kernel
theorem dX1_grow_62 : decode cX1_grow 62 = .ok (.iload_n 2, 1) := by decide +kernel
theorem dX1_grow_63 : decode cX1_grow 63 = .ok (.invokestatic 45, 3) := by decide +kernel
theorem dX1_grow_66 : decode cX1_grow 66 = .ok (.aload_n 0, 1) := by decide +kernel
theorem dX1_grow_67 : decode cX1_grow 67 = .ok (.getfield 31, 3) := by decide +kernel
theorem dX1_grow_70 : decode cX1_grow 70 = .ok (.getfield 52, 3) := by decide +kernel
theorem dX1_grow_73 : decode cX1_grow 73 = .ok (.iload_n 2, 1) := by decide +kernel
theorem dX1_grow_74 : decode cX1_grow 74 = .ok (.invokestatic 45, 3) := by decide +kernel
theorem dX1_grow_77 : decode cX1_grow 77 = .ok (.invokevirtual 55, 3) := by decide +kernel
theorem dX1_grow_80 : decode cX1_grow 80 = .ok (.ifCond .ne 7, 3) := by decide +kernel
theorem dX1_grow_83 : decode cX1_grow 83 = .ok (.iconst 1, 1) := by decide +kernel
theorem dX1_grow_84 : decode cX1_grow 84 = .ok (.goto 4, 3) := by decide +kernel
theorem dX1_grow_87 : decode cX1_grow 87 = .ok (.iconst 0, 1) := by decide +kernel
theorem dX1_grow_88 : decode cX1_grow 88 = .ok (.istore_n 3, 1) := by decide +kernel
theorem dX1_grow_89 : decode cX1_grow 89 = .ok (.aload_n 0, 1) := by decide +kernel
theorem dX1_grow_90 : decode cX1_grow 90 = .ok (.getfield 19, 3) := by decide +kernel
theorem dX1_grow_93 : decode cX1_grow 93 = .ok (.iload_n 2, 1) := by decide +kernel
theorem dX1_grow_94 : decode cX1_grow 94 = .ok (.iload_n 3, 1) := by decide +kernel
theorem dX1_grow_95 : decode cX1_grow 95 = .ok (.ifCond .eq 7, 3) := by decide +kernel
theorem dX1_grow_98 : decode cX1_grow 98 = .ok (.iconst 1, 1) := by decide +kernel
theorem dX1_grow_99 : decode cX1_grow 99 = .ok (.goto 4, 3) := by decide +kernel
theorem dX1_grow_102 : decode cX1_grow 102 = .ok (.iconst 0, 1) := by decide +kernel
theorem dX1_grow_103 : decode cX1_grow 103 = .ok (.invokestatic 35, 3) := by decide +kernel
theorem dX1_grow_106 : decode cX1_grow 106 = .ok (.iload_n 3, 1) := by decide +kernel
theorem dX1_grow_107 : decode cX1_grow 107 = .ok (.ifCond .eq 8, 3) := by decide +kernel
theorem dX1_grow_110 : decode cX1_grow 110 = .ok (.aload_n 0, 1) := by decide +kernel
theorem dX1_grow_111 : decode cX1_grow 111 = .ok (.iload_n 2, 1) := by decide +kernel
theorem dX1_grow_112 : decode cX1_grow 112 = .ok (.invokevirtual 59, 3) := by decide +kernel
theorem dX1_grow_115 : decode cX1_grow 115 = .ok (.iinc 1 1, 3) := by decide +kernel
theorem dX1_grow_118 : decode cX1_grow 118 = .ok (.goto (-84), 3) := by decide +kernel
theorem dX1_grow_121 : decode cX1_grow 121 = .ok (.return_, 1) := by decide +kernel
def rmX1_grow : Room := rmk 10 0 0 244
theorem nX1_grow : nameOk yX1_grow 0 = true := by decide +kernel
def bX1_grow_0 (J : JT) : List Value → Sem
  | [.ref x0] =>
    pI 1 1 x0 0 <|
    J 1 [.ref x0, .int 0]
  | _ => no
def bX1_grow_1 (J : JT) : List Value → Sem
  | [.ref x0, .int x1] =>
    br ((12 : Int32) ≤ x1)
    (ob 1 x0 (cV SX1_sortEdges [.ref x0] <|
    J 2 [.ref x0, .int 0]))
    (gR 1 4 x0 fun r1 =>
    cV SX10_put [.ref r1, .int x1, .int x1] <|
    J 1 [.ref x0, .int (x1 + 1)])
  | _ => no
def bX1_grow_2 (J : JT) : List Value → Sem
  | [.ref x0, .int x1] =>
    gR 1 0 x0 fun r1 =>
    gI 0 3 r1 fun v2 =>
    br (v2 ≤ x1)
    (rV)
    (gR 1 2 x0 fun r3 =>
    cI SX10_cell [.ref r3, .int x1] fun v4 =>
    gR 1 0 x0 fun r5 =>
    gR 0 8 r5 fun r6 =>
    cI SX10_cell [.ref r6, .int v4] fun v7 =>
    gR 1 0 x0 fun r8 =>
    gR 0 9 r8 fun r9 =>
    cI SX10_cell [.ref r9, .int v4] fun v10 =>
    ob 1 x0 (cI SX1_joined [.ref x0, .int v7, .int v10] fun v11 =>
    br (v11 = 0)
    (gR 1 3 x0 fun r13 =>
    br ((1 : Int32) = 0)
    (cV SX10_put [.ref r13, .int v4, .int 0] <|
    br ((1 : Int32) = 0)
    (J 2 [.ref x0, .int (x1 + 1)])
    (ob 1 x0 (cV SX1_take [.ref x0, .int v4] <|
    J 2 [.ref x0, .int (x1 + 1)])))
    (cV SX10_put [.ref r13, .int v4, .int 1] <|
    br ((1 : Int32) = 0)
    (J 2 [.ref x0, .int (x1 + 1)])
    (ob 1 x0 (cV SX1_take [.ref x0, .int v4] <|
    J 2 [.ref x0, .int (x1 + 1)]))))
    (gR 1 3 x0 fun r12 =>
    br ((0 : Int32) = 0)
    (cV SX10_put [.ref r12, .int v4, .int 0] <|
    br ((0 : Int32) = 0)
    (J 2 [.ref x0, .int (x1 + 1)])
    (ob 1 x0 (cV SX1_take [.ref x0, .int v4] <|
    J 2 [.ref x0, .int (x1 + 1)])))
    (cV SX10_put [.ref r12, .int v4, .int 1] <|
    br ((0 : Int32) = 0)
    (J 2 [.ref x0, .int (x1 + 1)])
    (ob 1 x0 (cV SX1_take [.ref x0, .int v4] <|
    J 2 [.ref x0, .int (x1 + 1)]))))))
  | _ => no
def bX1_grow (J : JT) : JT := fun L a => match L with
  | 0 => bX1_grow_0 J a
  | 1 => bX1_grow_1 J a
  | 2 => bX1_grow_2 J a
  | _ => no
def SX1_grow : ST := mk 4 bX1_grow
def lX1_grow (L : Nat) (a : List Value) : Nat × Nat × Nat × List (Nat × Value) × List Value := match L with
  | 0 => (0, 0, 0, lv_args 0 a, [])
  | 1 => (0, 0, 7, List.zip [0, 1] a, [])
  | 2 => (0, 0, 34, List.zip [0, 1] a, [])
  | _ => (0, 0, 0, [], [])
theorem pX1_grow_0 {Γ : CT} (hC : Ctx Γ "SpiritWall$Forest" cX1_grow 4 none rmX1_grow) (hnt : NT Γ) (J : JT) (hJ : ∀ L a, Cor Γ 4 (lX1_grow L a).1 (lX1_grow L a).2.1 (lX1_grow L a).2.2.1 (lX1_grow L a).2.2.2.1 (lX1_grow L a).2.2.2.2 (J L a)) (a : List Value) : Cor Γ 4 0 0 0 (lv_args 0 a) [] (bX1_grow_0 J a) := by
  unfold bX1_grow_0
  split
  · rename_i x0
    refine c_sub [0] rfl (loc' := [(0, .ref x0)]) ?_
    refine q_aload_n hC 0 dX1_grow_0 rfl rfl ?_
    refine q_iconst hC dX1_grow_1 rfl ?_
    refine q_putI hC (by decide) (by decide) rfl rfl w_102 dX1_grow_2 ?_
    refine q_iconst hC dX1_grow_5 rfl ?_
    refine q_istore_nA hC (loc' := [(1, .int 0), (0, .ref x0)]) dX1_grow_6 rfl (Nat.le_of_ble_eq_true rfl) rfl ?_
    exact c_sub [1, 0] rfl (hJ 1 [.ref x0, .int 0])
  · exact c_no
theorem pX1_grow_1 {Γ : CT} (hC : Ctx Γ "SpiritWall$Forest" cX1_grow 4 none rmX1_grow) (hnt : NT Γ) (J : JT) (hJ : ∀ L a, Cor Γ 4 (lX1_grow L a).1 (lX1_grow L a).2.1 (lX1_grow L a).2.2.1 (lX1_grow L a).2.2.2.1 (lX1_grow L a).2.2.2.2 (J L a)) (a : List Value) : Cor Γ 4 0 0 7 (List.zip [0, 1] a) [] (bX1_grow_1 J a) := by
  unfold bX1_grow_1
  split
  · rename_i x0 x1
    refine c_sub [0, 1] rfl (loc' := [(0, .ref x0), (1, .int x1)]) ?_
    refine q_iload_n hC 1 dX1_grow_7 rfl rfl ?_
    refine q_bipush hC (v := 12) dX1_grow_8 rfl ?_
    refine q_ic_ge hC 28 dX1_grow_10 rfl ?_ ?_
    · refine q_aload_n hC 0 dX1_grow_28 rfl rfl ?_
      refine q_cVV hC hnt (stk := []) (as := []) sX1_sortEdges (ci := 1) (by decide) rfl nX1_sortEdges rfl w_488 w_490 w_491 w_154 w_489 (Nat.le_of_ble_eq_true rfl) dX1_grow_29 rfl ?_
      refine q_iconst hC dX1_grow_32 rfl ?_
      refine q_istore_nA hC (loc' := [(1, .int 0), (0, .ref x0)]) dX1_grow_33 rfl (Nat.le_of_ble_eq_true rfl) rfl ?_
      exact c_sub [1, 0] rfl (hJ 2 [.ref x0, .int 0])
    · refine q_aload_n hC 0 dX1_grow_13 rfl rfl ?_
      refine q_getR hC (by decide) (by decide) rfl w_105 dX1_grow_14 (fun r1 => ?_)
      refine q_iload_n hC 1 dX1_grow_17 rfl rfl ?_
      refine q_iload_n hC 1 dX1_grow_18 rfl rfl ?_
      refine q_cNV hC hnt (stk := []) (as := [.ref r1, .int x1, .int x1]) sX10_put nX10_put rfl w_468 w_187 w_27 w_186 (Nat.le_of_ble_eq_true rfl) dX1_grow_19 rfl ?_
      refine q_iincA hC (loc' := [(1, .int (x1 + 1)), (0, .ref x0)]) 1 1 dX1_grow_22 rfl rfl (Nat.le_of_ble_eq_true rfl) rfl ?_
      refine q_goto hC 7 dX1_grow_25 rfl ?_
      exact c_sub [1, 0] rfl (hJ 1 [.ref x0, .int (x1 + 1)])
  · exact c_no
theorem pX1_grow_2 {Γ : CT} (hC : Ctx Γ "SpiritWall$Forest" cX1_grow 4 none rmX1_grow) (hnt : NT Γ) (J : JT) (hJ : ∀ L a, Cor Γ 4 (lX1_grow L a).1 (lX1_grow L a).2.1 (lX1_grow L a).2.2.1 (lX1_grow L a).2.2.2.1 (lX1_grow L a).2.2.2.2 (J L a)) (a : List Value) : Cor Γ 4 0 0 34 (List.zip [0, 1] a) [] (bX1_grow_2 J a) := by
  unfold bX1_grow_2
  split
  · rename_i x0 x1
    refine c_sub [0, 1] rfl (loc' := [(0, .ref x0), (1, .int x1)]) ?_
    refine q_iload_n hC 1 dX1_grow_34 rfl rfl ?_
    refine q_aload_n hC 0 dX1_grow_35 rfl rfl ?_
    refine q_getR hC (by decide) (by decide) rfl w_108 dX1_grow_36 (fun r1 => ?_)
    refine q_getI hC (by decide) (by decide) rfl w_465 dX1_grow_39 (fun v2 => ?_)
    refine q_ic_ge hC 121 dX1_grow_42 rfl ?_ ?_
    · exact q_vret hC dX1_grow_121 (Nat.le_of_ble_eq_true rfl) (Nat.le_of_ble_eq_true rfl)
    · refine q_aload_n hC 0 dX1_grow_45 rfl rfl ?_
      refine q_getR hC (by decide) (by decide) rfl w_103 dX1_grow_46 (fun r3 => ?_)
      refine q_iload_n hC 1 dX1_grow_49 rfl rfl ?_
      refine q_cNI hC hnt (stk := []) (as := [.ref r3, .int x1]) sX10_cell nX10_cell rfl w_467 w_202 w_27 w_201 (Nat.le_of_ble_eq_true rfl) dX1_grow_50 rfl (fun v4 => ?_)
      refine q_istore_nA hC (loc' := [(2, .int v4), (0, .ref x0), (1, .int x1)]) dX1_grow_53 rfl (Nat.le_of_ble_eq_true rfl) rfl ?_
      refine q_aload_n hC 1 dX1_grow_54 rfl rfl ?_
      refine q_aload_n hC 1 dX1_grow_55 rfl rfl ?_
      refine q_getR hC (by decide) (by decide) rfl w_108 dX1_grow_56 (fun r5 => ?_)
      refine q_getR hC (by decide) (by decide) rfl w_469 dX1_grow_59 (fun r6 => ?_)
      refine q_iload_n hC 0 dX1_grow_62 rfl rfl ?_
      refine q_cNI hC hnt (stk := [.ref x0]) (as := [.ref r6, .int v4]) sX10_cell nX10_cell rfl w_467 w_202 w_27 w_201 (Nat.le_of_ble_eq_true rfl) dX1_grow_63 rfl (fun v7 => ?_)
      refine q_aload_n hC 1 dX1_grow_66 rfl rfl ?_
      refine q_getR hC (by decide) (by decide) rfl w_108 dX1_grow_67 (fun r8 => ?_)
      refine q_getR hC (by decide) (by decide) rfl w_470 dX1_grow_70 (fun r9 => ?_)
      refine q_iload_n hC 0 dX1_grow_73 rfl rfl ?_
      refine q_cNI hC hnt (stk := [.int v7, .ref x0]) (as := [.ref r9, .int v4]) sX10_cell nX10_cell rfl w_467 w_202 w_27 w_201 (Nat.le_of_ble_eq_true rfl) dX1_grow_74 rfl (fun v10 => ?_)
      refine q_cVI hC hnt (stk := []) (as := [.int v7, .int v10]) sX1_joined (ci := 1) (by decide) rfl nX1_joined rfl w_492 w_494 w_495 w_154 w_493 (Nat.le_of_ble_eq_true rfl) dX1_grow_77 rfl (fun v11 => ?_)
      refine q_if_ne hC 87 dX1_grow_80 rfl ?_ ?_
      · refine q_iconst hC dX1_grow_87 rfl ?_
        refine q_istore_nA hC (loc' := [(3, .int 0), (2, .int v4), (0, .ref x0), (1, .int x1)]) dX1_grow_88 rfl (Nat.le_of_ble_eq_true rfl) rfl ?_
        refine q_aload_n hC 2 dX1_grow_89 rfl rfl ?_
        refine q_getR hC (by decide) (by decide) rfl w_104 dX1_grow_90 (fun r12 => ?_)
        refine q_iload_n hC 1 dX1_grow_93 rfl rfl ?_
        refine q_iload_n hC 0 dX1_grow_94 rfl rfl ?_
        refine q_if_eq hC 102 dX1_grow_95 rfl ?_ ?_
        · refine q_iconst hC dX1_grow_102 rfl ?_
          refine q_cNV hC hnt (stk := []) (as := [.ref r12, .int v4, .int 0]) sX10_put nX10_put rfl w_468 w_187 w_27 w_186 (Nat.le_of_ble_eq_true rfl) dX1_grow_103 rfl ?_
          refine q_iload_n hC 0 dX1_grow_106 rfl rfl ?_
          refine q_if_eq hC 115 dX1_grow_107 rfl ?_ ?_
          · refine q_iincA hC (loc' := [(1, .int (x1 + 1)), (3, .int 0), (2, .int v4), (0, .ref x0)]) 3 1 dX1_grow_115 rfl rfl (Nat.le_of_ble_eq_true rfl) rfl ?_
            refine q_goto hC 34 dX1_grow_118 rfl ?_
            exact c_sub [3, 0] rfl (hJ 2 [.ref x0, .int (x1 + 1)])
          · refine q_aload_n hC 2 dX1_grow_110 rfl rfl ?_
            refine q_iload_n hC 1 dX1_grow_111 rfl rfl ?_
            refine q_cVV hC hnt (stk := []) (as := [.int v4]) sX1_take (ci := 1) (by decide) rfl nX1_take rfl w_496 w_498 w_499 w_154 w_497 (Nat.le_of_ble_eq_true rfl) dX1_grow_112 rfl ?_
            refine q_iincA hC (loc' := [(1, .int (x1 + 1)), (3, .int 0), (2, .int v4), (0, .ref x0)]) 3 1 dX1_grow_115 rfl rfl (Nat.le_of_ble_eq_true rfl) rfl ?_
            refine q_goto hC 34 dX1_grow_118 rfl ?_
            exact c_sub [3, 0] rfl (hJ 2 [.ref x0, .int (x1 + 1)])
        · refine q_iconst hC dX1_grow_98 rfl ?_
          refine q_goto hC 103 dX1_grow_99 rfl ?_
          refine q_cNV hC hnt (stk := []) (as := [.ref r12, .int v4, .int 1]) sX10_put nX10_put rfl w_468 w_187 w_27 w_186 (Nat.le_of_ble_eq_true rfl) dX1_grow_103 rfl ?_
          refine q_iload_n hC 0 dX1_grow_106 rfl rfl ?_
          refine q_if_eq hC 115 dX1_grow_107 rfl ?_ ?_
          · refine q_iincA hC (loc' := [(1, .int (x1 + 1)), (3, .int 0), (2, .int v4), (0, .ref x0)]) 3 1 dX1_grow_115 rfl rfl (Nat.le_of_ble_eq_true rfl) rfl ?_
            refine q_goto hC 34 dX1_grow_118 rfl ?_
            exact c_sub [3, 0] rfl (hJ 2 [.ref x0, .int (x1 + 1)])
          · refine q_aload_n hC 2 dX1_grow_110 rfl rfl ?_
            refine q_iload_n hC 1 dX1_grow_111 rfl rfl ?_
            refine q_cVV hC hnt (stk := []) (as := [.int v4]) sX1_take (ci := 1) (by decide) rfl nX1_take rfl w_496 w_498 w_499 w_154 w_497 (Nat.le_of_ble_eq_true rfl) dX1_grow_112 rfl ?_
            refine q_iincA hC (loc' := [(1, .int (x1 + 1)), (3, .int 0), (2, .int v4), (0, .ref x0)]) 3 1 dX1_grow_115 rfl rfl (Nat.le_of_ble_eq_true rfl) rfl ?_
            refine q_goto hC 34 dX1_grow_118 rfl ?_
            exact c_sub [3, 0] rfl (hJ 2 [.ref x0, .int (x1 + 1)])
      · refine q_iconst hC dX1_grow_83 rfl ?_
        refine q_goto hC 88 dX1_grow_84 rfl ?_
        refine q_istore_nA hC (loc' := [(3, .int 1), (2, .int v4), (0, .ref x0), (1, .int x1)]) dX1_grow_88 rfl (Nat.le_of_ble_eq_true rfl) rfl ?_
        refine q_aload_n hC 2 dX1_grow_89 rfl rfl ?_
        refine q_getR hC (by decide) (by decide) rfl w_104 dX1_grow_90 (fun r13 => ?_)
        refine q_iload_n hC 1 dX1_grow_93 rfl rfl ?_
        refine q_iload_n hC 0 dX1_grow_94 rfl rfl ?_
        refine q_if_eq hC 102 dX1_grow_95 rfl ?_ ?_
        · refine q_iconst hC dX1_grow_102 rfl ?_
          refine q_cNV hC hnt (stk := []) (as := [.ref r13, .int v4, .int 0]) sX10_put nX10_put rfl w_468 w_187 w_27 w_186 (Nat.le_of_ble_eq_true rfl) dX1_grow_103 rfl ?_
          refine q_iload_n hC 0 dX1_grow_106 rfl rfl ?_
          refine q_if_eq hC 115 dX1_grow_107 rfl ?_ ?_
          · refine q_iincA hC (loc' := [(1, .int (x1 + 1)), (3, .int 1), (2, .int v4), (0, .ref x0)]) 3 1 dX1_grow_115 rfl rfl (Nat.le_of_ble_eq_true rfl) rfl ?_
            refine q_goto hC 34 dX1_grow_118 rfl ?_
            exact c_sub [3, 0] rfl (hJ 2 [.ref x0, .int (x1 + 1)])
          · refine q_aload_n hC 2 dX1_grow_110 rfl rfl ?_
            refine q_iload_n hC 1 dX1_grow_111 rfl rfl ?_
            refine q_cVV hC hnt (stk := []) (as := [.int v4]) sX1_take (ci := 1) (by decide) rfl nX1_take rfl w_496 w_498 w_499 w_154 w_497 (Nat.le_of_ble_eq_true rfl) dX1_grow_112 rfl ?_
            refine q_iincA hC (loc' := [(1, .int (x1 + 1)), (3, .int 1), (2, .int v4), (0, .ref x0)]) 3 1 dX1_grow_115 rfl rfl (Nat.le_of_ble_eq_true rfl) rfl ?_
            refine q_goto hC 34 dX1_grow_118 rfl ?_
            exact c_sub [3, 0] rfl (hJ 2 [.ref x0, .int (x1 + 1)])
        · refine q_iconst hC dX1_grow_98 rfl ?_
          refine q_goto hC 103 dX1_grow_99 rfl ?_
          refine q_cNV hC hnt (stk := []) (as := [.ref r13, .int v4, .int 1]) sX10_put nX10_put rfl w_468 w_187 w_27 w_186 (Nat.le_of_ble_eq_true rfl) dX1_grow_103 rfl ?_
          refine q_iload_n hC 0 dX1_grow_106 rfl rfl ?_
          refine q_if_eq hC 115 dX1_grow_107 rfl ?_ ?_
          · refine q_iincA hC (loc' := [(1, .int (x1 + 1)), (3, .int 1), (2, .int v4), (0, .ref x0)]) 3 1 dX1_grow_115 rfl rfl (Nat.le_of_ble_eq_true rfl) rfl ?_
            refine q_goto hC 34 dX1_grow_118 rfl ?_
            exact c_sub [3, 0] rfl (hJ 2 [.ref x0, .int (x1 + 1)])
          · refine q_aload_n hC 2 dX1_grow_110 rfl rfl ?_
            refine q_iload_n hC 1 dX1_grow_111 rfl rfl ?_
            refine q_cVV hC hnt (stk := []) (as := [.int v4]) sX1_take (ci := 1) (by decide) rfl nX1_take rfl w_496 w_498 w_499 w_154 w_497 (Nat.le_of_ble_eq_true rfl) dX1_grow_112 rfl ?_
            refine q_iincA hC (loc' := [(1, .int (x1 + 1)), (3, .int 1), (2, .int v4), (0, .ref x0)]) 3 1 dX1_grow_115 rfl rfl (Nat.le_of_ble_eq_true rfl) rfl ?_
            refine q_goto hC 34 dX1_grow_118 rfl ?_
            exact c_sub [3, 0] rfl (hJ 2 [.ref x0, .int (x1 + 1)])
  · exact c_no
theorem sX1_grow : Snd yX1_grow (.code yX1_grow cX1_grow 4 none) rmX1_grow SX1_grow := by
  refine Snd.of lX1_grow (by decide +kernel) (fun _ => rfl) ?_
  intro Γ hC hnt hnm J hJ L a
  match L with
  | 0 => exact pX1_grow_0 hC hnt J hJ a
  | 1 => exact pX1_grow_1 hC hnt J hJ a
  | 2 => exact pX1_grow_2 hC hnt J hJ a
  | L + 3 => exact c_no
/-! SpiritWall$Loops.trace(I)V -/
theorem dX4_trace_0 : decode cX4_trace 0 = .ok (.aload_n 0, 1) := by decide +kernel
theorem dX4_trace_1 : decode cX4_trace 1 = .ok (.getfield 37, 3) := by decide +kernel
theorem dX4_trace_4 : decode cX4_trace 4 = .ok (.getfield 73, 3) := by decide +kernel
theorem dX4_trace_7 : decode cX4_trace 7 = .ok (.iload_n 1, 1) := by decide +kernel
theorem dX4_trace_8 : decode cX4_trace 8 = .ok (.invokestatic 57, 3) := by decide +kernel
theorem dX4_trace_11 : decode cX4_trace 11 = .ok (.istore_n 2, 1) := by decide +kernel
theorem dX4_trace_12 : decode cX4_trace 12 = .ok (.aload_n 0, 1) := by decide +kernel
theorem dX4_trace_13 : decode cX4_trace 13 = .ok (.getfield 37, 3) := by decide +kernel
theorem dX4_trace_16 : decode cX4_trace 16 = .ok (.getfield 76, 3) := by decide +kernel
theorem dX4_trace_19 : decode cX4_trace 19 = .ok (.iload_n 1, 1) := by decide +kernel
theorem dX4_trace_20 : decode cX4_trace 20 = .ok (.invokestatic 57, 3) := by decide +kernel
theorem dX4_trace_23 : decode cX4_trace 23 = .ok (.istore_n 3, 1) := by decide +kernel
theorem dX4_trace_24 : decode cX4_trace 24 = .ok (.iconst 1, 1) := by decide +kernel
theorem dX4_trace_25 : decode cX4_trace 25 = .ok (.istore 4, 2) := by decide +kernel
theorem dX4_trace_27 : decode cX4_trace 27 = .ok (.aload_n 0, 1) := by decide +kernel
theorem dX4_trace_28 : decode cX4_trace 28 = .ok (.getfield 37, 3) := by decide +kernel
theorem dX4_trace_31 : decode cX4_trace 31 = .ok (.getfield 79, 3) := by decide +kernel
theorem dX4_trace_34 : decode cX4_trace 34 = .ok (.iload_n 1, 1) := by decide +kernel
theorem dX4_trace_35 : decode cX4_trace 35 = .ok (.invokestatic 57, 3) := by decide +kernel
theorem dX4_trace_38 : decode cX4_trace 38 = .ok (.istore 5, 2) := by decide +kernel
theorem dX4_trace_40 : decode cX4_trace 40 = .ok (.aload_n 0, 1) := by decide +kernel
theorem dX4_trace_41 : decode cX4_trace 41 = .ok (.getfield 28, 3) := by decide +kernel
theorem dX4_trace_44 : decode cX4_trace 44 = .ok (.bipush 12, 2) := by decide +kernel
theorem dX4_trace_46 : decode cX4_trace 46 = .ok (.aload_n 0, 1) := by decide +kernel
theorem dX4_trace_47 : decode cX4_trace 47 = .ok (.getfield 9, 3) := by decide +kernel
theorem dX4_trace_50 : decode cX4_trace 50 = .ok (.imul, 1) := by decide +kernel
theorem dX4_trace_51 : decode cX4_trace 51 = .ok (.iload_n 2, 1) := by decide +kernel
theorem dX4_trace_52 : decode cX4_trace 52 = .ok (.invokestatic 82, 3) := by decide +kernel
theorem dX4_trace_55 : decode cX4_trace 55 = .ok (.iload 4, 2) := by decide +kernel
theorem dX4_trace_57 : decode cX4_trace 57 = .ok (.bipush 12, 2) := by decide +kernel
theorem dX4_trace_59 : decode cX4_trace 59 = .ok (.if_icmp .ge 64, 3) := by decide +kernel
theorem dX4_trace_62 : decode cX4_trace 62 = .ok (.iload_n 3, 1) := by decide +kernel
theorem dX4_trace_63 : decode cX4_trace 63 = .ok (.iload_n 2, 1) := by decide +kernel
theorem dX4_trace_64 : decode cX4_trace 64 = .ok (.if_icmp .eq 59, 3) := by decide +kernel
theorem dX4_trace_67 : decode cX4_trace 67 = .ok (.aload_n 0, 1) := by decide +kernel
theorem dX4_trace_68 : decode cX4_trace 68 = .ok (.getfield 28, 3) := by decide +kernel
theorem dX4_trace_71 : decode cX4_trace 71 = .ok (.bipush 12, 2) := by decide +kernel
theorem dX4_trace_73 : decode cX4_trace 73 = .ok (.aload_n 0, 1) := by decide +kernel
theorem dX4_trace_74 : decode cX4_trace 74 = .ok (.getfield 9, 3) := by decide +kernel
theorem dX4_trace_77 : decode cX4_trace 77 = .ok (.imul, 1) := by decide +kernel
theorem dX4_trace_78 : decode cX4_trace 78 = .ok (.iload 4, 2) := by decide +kernel
theorem dX4_trace_80 : decode cX4_trace 80 = .ok (.iadd, 1) := by decide +kernel
theorem dX4_trace_81 : decode cX4_trace 81 = .ok (.iload_n 3, 1) := by decide +kernel
theorem dX4_trace_82 : decode cX4_trace 82 = .ok (.invokestatic 82, 3) := by decide +kernel
theorem dX4_trace_85 : decode cX4_trace 85 = .ok (.aload_n 0, 1) := by decide +kernel
theorem dX4_trace_86 : decode cX4_trace 86 = .ok (.getfield 41, 3) := by decide +kernel
theorem dX4_trace_89 : decode cX4_trace 89 = .ok (.iload_n 3, 1) := by decide +kernel
theorem dX4_trace_90 : decode cX4_trace 90 = .ok (.iload_n 2, 1) := by decide +kernel
theorem dX4_trace_91 : decode cX4_trace 91 = .ok (.invokevirtual 86, 3) := by decide +kernel
theorem dX4_trace_94 : decode cX4_trace 94 = .ok (.istore 6, 2) := by decide +kernel
theorem dX4_trace_96 : decode cX4_trace 96 = .ok (.iload 5, 2) := by decide +kernel
theorem dX4_trace_98 : decode cX4_trace 98 = .ok (.aload_n 0, 1) := by decide +kernel
theorem dX4_trace_99 : decode cX4_trace 99 = .ok (.getfield 37, 3) := by decide +kernel
theorem dX4_trace_102 : decode cX4_trace 102 = .ok (.getfield 90, 3) := by decide +kernel
theorem dX4_trace_105 : decode cX4_trace 105 = .ok (.iload_n 3, 1) := by decide +kernel
theorem dX4_trace_106 : decode cX4_trace 106 = .ok (.iload 6, 2) := by decide +kernel
theorem dX4_trace_108 : decode cX4_trace 108 = .ok (.invokevirtual 94, 3) := by decide +kernel
theorem dX4_trace_111 : decode cX4_trace 111 = .ok (.iadd, 1) := by decide +kernel
theorem dX4_trace_112 : decode cX4_trace 112 = .ok (.istore 5, 2) := by decide +kernel
theorem dX4_trace_114 : decode cX4_trace 114 = .ok (.iload 6, 2) := by decide +kernel
theorem dX4_trace_116 : decode cX4_trace 116 = .ok (.istore_n 3, 1) := by decide +kernel
theorem dX4_trace_117 : decode cX4_trace 117 = .ok (.iinc 4 1, 3) := by decide +kernel
theorem dX4_trace_120 : decode cX4_trace 120 = .ok (.goto (-65), 3) := by decide +kernel
theorem dX4_trace_123 : decode cX4_trace 123 = .ok (.aload_n 0, 1) := by decide +kernel
theorem dX4_trace_124 : decode cX4_trace 124 = .ok (.getfield 18, 3) := by decide +kernel
theorem dX4_trace_127 : decode cX4_trace 127 = .ok (.aload_n 0, 1) := by decide +kernel
theorem dX4_trace_128 : decode cX4_trace 128 = .ok (.getfield 9, 3) := by decide +kernel
theorem dX4_trace_131 : decode cX4_trace 131 = .ok (.iload 4, 2) := by decide +kernel
theorem dX4_trace_133 : decode cX4_trace 133 = .ok (.invokestatic 82, 3) := by decide +kernel
theorem dX4_trace_136 : decode cX4_trace 136 = .ok (.aload_n 0, 1) := by decide +kernel
theorem dX4_trace_137 : decode cX4_trace 137 = .ok (.getfield 22, 3) := by decide +kernel
theorem dX4_trace_140 : decode cX4_trace 140 = .ok (.aload_n 0, 1) := by decide +kernel
theorem dX4_trace_141 : decode cX4_trace 141 = .ok (.getfield 9, 3) := by decide +kernel
theorem dX4_trace_144 : decode cX4_trace 144 = .ok (.iload 5, 2) := by decide +kernel
theorem dX4_trace_146 : decode cX4_trace 146 = .ok (.invokestatic 82, 3) := by decide +kernel
theorem dX4_trace_149 : decode cX4_trace 149 = .ok (.aload_n 0, 1) := by decide +kernel
theorem dX4_trace_150 : decode cX4_trace 150 = .ok (.getfield 25, 3) := by decide +kernel
theorem dX4_trace_153 : decode cX4_trace 153 = .ok (.aload_n 0, 1) := by decide +kernel
theorem dX4_trace_154 : decode cX4_trace 154 = .ok (.getfield 9, 3) := by decide +kernel
theorem dX4_trace_157 : decode cX4_trace 157 = .ok (.aload_n 0, 1) := by decide +kernel
theorem dX4_trace_158 : decode cX4_trace 158 = .ok (.getfield 37, 3) := by decide +kernel
theorem dX4_trace_161 : decode cX4_trace 161 = .ok (.getfield 99, 3) := by decide +kernel
theorem dX4_trace_164 : decode cX4_trace 164 = .ok (.iload_n 1, 1) := by decide +kernel
theorem dX4_trace_165 : decode cX4_trace 165 = .ok (.invokestatic 57, 3) := by decide +kernel
theorem dX4_trace_168 : decode cX4_trace 168 = .ok (.aload_n 0, 1) := by decide +kernel
theorem dX4_trace_169 : decode cX4_trace 169 = .ok (.getfield 41, 3) := by decide +kernel
theorem dX4_trace_172 : decode cX4_trace 172 = .ok (.aload_n 0, 1) := by decide +kernel
theorem dX4_trace_173 : decode cX4_trace 173 = .ok (.getfield 37, 3) := by decide +kernel
theorem dX4_trace_176 : decode cX4_trace 176 = .ok (.getfield 76, 3) := by decide +kernel
theorem dX4_trace_179 : decode cX4_trace 179 = .ok (.iload_n 1, 1) := by decide +kernel
theorem dX4_trace_180 : decode cX4_trace 180 = .ok (.invokestatic 57, 3) := by decide +kernel
theorem dX4_trace_183 : decode cX4_trace 183 = .ok (.iload_n 2, 1) := by decide +kernel
theorem dX4_trace_184 : decode cX4_trace 184 = .ok (.invokevirtual 102, 3) := by decide +kernel
theorem dX4_trace_187 : decode cX4_trace 187 = .ok (.iadd, 1) := by decide +kernel
theorem dX4_trace_188 : decode cX4_trace 188 = .ok (.invokestatic 82, 3) := by decide +kernel
theorem dX4_trace_191 : decode cX4_trace 191 = .ok (.return_, 1) := by decide +kernel
def rmX4_trace : Room := rmk 8 0 0 194
theorem nX4_trace : nameOk yX4_trace 1 = true := by decide +kernel
def bX4_trace_0 (J : JT) : List Value → Sem
  | [.ref x0, .int x1] =>
    gR 4 0 x0 fun r1 =>
    gR 0 8 r1 fun r2 =>
    cI SX10_cell [.ref r2, .int x1] fun v3 =>
    gR 4 0 x0 fun r4 =>
    gR 0 9 r4 fun r5 =>
    cI SX10_cell [.ref r5, .int x1] fun v6 =>
    gR 4 0 x0 fun r7 =>
    gR 0 10 r7 fun r8 =>
    cI SX10_cell [.ref r8, .int x1] fun v9 =>
    gR 4 7 x0 fun r10 =>
    gI 4 2 x0 fun v11 =>
    cV SX10_put [.ref r10, .int (12 * v11), .int v3] <|
    J 1 [.ref x0, .int x1, .int v3, .int v6, .int 1, .int v9]
  | _ => no
def bX4_trace_1 (J : JT) : List Value → Sem
  | [.ref x0, .int x1, .int x2, .int x3, .int x4, .int x5] =>
    br ((12 : Int32) ≤ x4)
    (J 2 [.ref x0, .int x1, .int x2, .int x4, .int x5])
    (br (x3 = x2)
    (J 2 [.ref x0, .int x1, .int x2, .int x4, .int x5])
    (gR 4 7 x0 fun r1 =>
    gI 4 2 x0 fun v2 =>
    cV SX10_put [.ref r1, .int ((12 * v2) + x4), .int x3] <|
    gR 4 1 x0 fun r3 =>
    ob 1 r3 (cI SX1_hop [.ref r3, .int x3, .int x2] fun v4 =>
    gR 4 0 x0 fun r5 =>
    gR 0 0 r5 fun r6 =>
    ob 9 r6 (cI SX9_distance [.ref r6, .int x3, .int v4] fun v7 =>
    lI (x5 + v7) fun y5_8 =>
    J 1 [.ref x0, .int x1, .int x2, .int v4, .int (x4 + 1), .int y5_8]))))
  | _ => no
def bX4_trace_2 (J : JT) : List Value → Sem
  | [.ref x0, .int x1, .int x2, .int x4, .int x5] =>
    gR 4 4 x0 fun r1 =>
    gI 4 2 x0 fun v2 =>
    cV SX10_put [.ref r1, .int v2, .int x4] <|
    gR 4 5 x0 fun r3 =>
    gI 4 2 x0 fun v4 =>
    cV SX10_put [.ref r3, .int v4, .int x5] <|
    gR 4 6 x0 fun r5 =>
    gI 4 2 x0 fun v6 =>
    gR 4 0 x0 fun r7 =>
    gR 0 12 r7 fun r8 =>
    cI SX10_cell [.ref r8, .int x1] fun v9 =>
    gR 4 1 x0 fun r10 =>
    gR 4 0 x0 fun r11 =>
    gR 0 9 r11 fun r12 =>
    cI SX10_cell [.ref r12, .int x1] fun v13 =>
    ob 1 r10 (cI SX1_climbOf [.ref r10, .int v13, .int x2] fun v14 =>
    cV SX10_put [.ref r5, .int v6, .int (v9 + v14)] <|
    rV)
  | _ => no
def bX4_trace (J : JT) : JT := fun L a => match L with
  | 0 => bX4_trace_0 J a
  | 1 => bX4_trace_1 J a
  | 2 => bX4_trace_2 J a
  | _ => no
def SX4_trace : ST := mk 7 bX4_trace
def lX4_trace (L : Nat) (a : List Value) : Nat × Nat × Nat × List (Nat × Value) × List Value := match L with
  | 0 => (0, 0, 0, lv_args 0 a, [])
  | 1 => (0, 0, 55, List.zip [0, 1, 2, 3, 4, 5] a, [])
  | 2 => (0, 0, 123, List.zip [0, 1, 2, 4, 5] a, [])
  | _ => (0, 0, 0, [], [])
theorem pX4_trace_0 {Γ : CT} (hC : Ctx Γ "SpiritWall$Loops" cX4_trace 7 none rmX4_trace) (hnt : NT Γ) (J : JT) (hJ : ∀ L a, Cor Γ 7 (lX4_trace L a).1 (lX4_trace L a).2.1 (lX4_trace L a).2.2.1 (lX4_trace L a).2.2.2.1 (lX4_trace L a).2.2.2.2 (J L a)) (a : List Value) : Cor Γ 7 0 0 0 (lv_args 0 a) [] (bX4_trace_0 J a) := by
  unfold bX4_trace_0
  split
  · rename_i x0 x1
    refine c_sub [0, 1] rfl (loc' := [(0, .ref x0), (1, .int x1)]) ?_
    refine q_aload_n hC 0 dX4_trace_0 rfl rfl ?_
    refine q_getR hC (by decide) (by decide) rfl w_118 dX4_trace_1 (fun r1 => ?_)
    refine q_getR hC (by decide) (by decide) rfl w_500 dX4_trace_4 (fun r2 => ?_)
    refine q_iload_n hC 1 dX4_trace_7 rfl rfl ?_
    refine q_cNI hC hnt (stk := []) (as := [.ref r2, .int x1]) sX10_cell nX10_cell rfl w_501 w_202 w_27 w_201 (Nat.le_of_ble_eq_true rfl) dX4_trace_8 rfl (fun v3 => ?_)
    refine q_istore_nA hC (loc' := [(2, .int v3), (0, .ref x0), (1, .int x1)]) dX4_trace_11 rfl (Nat.le_of_ble_eq_true rfl) rfl ?_
    refine q_aload_n hC 1 dX4_trace_12 rfl rfl ?_
    refine q_getR hC (by decide) (by decide) rfl w_118 dX4_trace_13 (fun r4 => ?_)
    refine q_getR hC (by decide) (by decide) rfl w_502 dX4_trace_16 (fun r5 => ?_)
    refine q_iload_n hC 2 dX4_trace_19 rfl rfl ?_
    refine q_cNI hC hnt (stk := []) (as := [.ref r5, .int x1]) sX10_cell nX10_cell rfl w_501 w_202 w_27 w_201 (Nat.le_of_ble_eq_true rfl) dX4_trace_20 rfl (fun v6 => ?_)
    refine q_istore_nA hC (loc' := [(3, .int v6), (2, .int v3), (0, .ref x0), (1, .int x1)]) dX4_trace_23 rfl (Nat.le_of_ble_eq_true rfl) rfl ?_
    refine q_iconst hC dX4_trace_24 rfl ?_
    refine q_istoreA hC (loc' := [(4, .int 1), (3, .int v6), (2, .int v3), (0, .ref x0), (1, .int x1)]) dX4_trace_25 (Nat.le_of_ble_eq_true rfl) rfl ?_
    refine q_aload_n hC 3 dX4_trace_27 rfl rfl ?_
    refine q_getR hC (by decide) (by decide) rfl w_118 dX4_trace_28 (fun r7 => ?_)
    refine q_getR hC (by decide) (by decide) rfl w_503 dX4_trace_31 (fun r8 => ?_)
    refine q_iload_n hC 4 dX4_trace_34 rfl rfl ?_
    refine q_cNI hC hnt (stk := []) (as := [.ref r8, .int x1]) sX10_cell nX10_cell rfl w_501 w_202 w_27 w_201 (Nat.le_of_ble_eq_true rfl) dX4_trace_35 rfl (fun v9 => ?_)
    refine q_istoreA hC (loc' := [(5, .int v9), (4, .int 1), (3, .int v6), (2, .int v3), (0, .ref x0), (1, .int x1)]) dX4_trace_38 (Nat.le_of_ble_eq_true rfl) rfl ?_
    refine q_aload_n hC 4 dX4_trace_40 rfl rfl ?_
    refine q_getR hC (by decide) (by decide) rfl w_115 dX4_trace_41 (fun r10 => ?_)
    refine q_bipush hC (v := 12) dX4_trace_44 rfl ?_
    refine q_aload_n hC 4 dX4_trace_46 rfl rfl ?_
    refine q_getI hC (by decide) (by decide) rfl w_110 dX4_trace_47 (fun v11 => ?_)
    refine q_imul hC dX4_trace_50 ?_
    refine q_iload_n hC 3 dX4_trace_51 rfl rfl ?_
    refine q_cNV hC hnt (stk := []) (as := [.ref r10, .int (12 * v11), .int v3]) sX10_put nX10_put rfl w_504 w_187 w_27 w_186 (Nat.le_of_ble_eq_true rfl) dX4_trace_52 rfl ?_
    exact c_sub [4, 5, 3, 2, 1, 0] rfl (hJ 1 [.ref x0, .int x1, .int v3, .int v6, .int 1, .int v9])
  · exact c_no
theorem pX4_trace_1 {Γ : CT} (hC : Ctx Γ "SpiritWall$Loops" cX4_trace 7 none rmX4_trace) (hnt : NT Γ) (J : JT) (hJ : ∀ L a, Cor Γ 7 (lX4_trace L a).1 (lX4_trace L a).2.1 (lX4_trace L a).2.2.1 (lX4_trace L a).2.2.2.1 (lX4_trace L a).2.2.2.2 (J L a)) (a : List Value) : Cor Γ 7 0 0 55 (List.zip [0, 1, 2, 3, 4, 5] a) [] (bX4_trace_1 J a) := by
  unfold bX4_trace_1
  split
  · rename_i x0 x1 x2 x3 x4 x5
    refine c_sub [0, 1, 2, 3, 4, 5] rfl (loc' := [(0, .ref x0), (1, .int x1), (2, .int x2), (3, .int x3), (4, .int x4), (5, .int x5)]) ?_
    refine q_iload hC 4 dX4_trace_55 rfl ?_
    refine q_bipush hC (v := 12) dX4_trace_57 rfl ?_
    refine q_ic_ge hC 123 dX4_trace_59 rfl ?_ ?_
    · exact c_sub [0, 1, 2, 4, 5] rfl (hJ 2 [.ref x0, .int x1, .int x2, .int x4, .int x5])
    · refine q_iload_n hC 3 dX4_trace_62 rfl rfl ?_
      refine q_iload_n hC 2 dX4_trace_63 rfl rfl ?_
      refine q_ic_eq hC 123 dX4_trace_64 rfl ?_ ?_
      · exact c_sub [0, 1, 2, 4, 5] rfl (hJ 2 [.ref x0, .int x1, .int x2, .int x4, .int x5])
      · refine q_aload_n hC 0 dX4_trace_67 rfl rfl ?_
        refine q_getR hC (by decide) (by decide) rfl w_115 dX4_trace_68 (fun r1 => ?_)
        refine q_bipush hC (v := 12) dX4_trace_71 rfl ?_
        refine q_aload_n hC 0 dX4_trace_73 rfl rfl ?_
        refine q_getI hC (by decide) (by decide) rfl w_110 dX4_trace_74 (fun v2 => ?_)
        refine q_imul hC dX4_trace_77 ?_
        refine q_iload hC 4 dX4_trace_78 rfl ?_
        refine q_iadd hC dX4_trace_80 ?_
        refine q_iload_n hC 3 dX4_trace_81 rfl rfl ?_
        refine q_cNV hC hnt (stk := []) (as := [.ref r1, .int ((12 * v2) + x4), .int x3]) sX10_put nX10_put rfl w_504 w_187 w_27 w_186 (Nat.le_of_ble_eq_true rfl) dX4_trace_82 rfl ?_
        refine q_aload_n hC 0 dX4_trace_85 rfl rfl ?_
        refine q_getR hC (by decide) (by decide) rfl w_119 dX4_trace_86 (fun r3 => ?_)
        refine q_iload_n hC 3 dX4_trace_89 rfl rfl ?_
        refine q_iload_n hC 2 dX4_trace_90 rfl rfl ?_
        refine q_cVI hC hnt (stk := []) (as := [.int x3, .int x2]) sX1_hop (ci := 1) (by decide) rfl nX1_hop rfl w_505 w_478 w_479 w_154 w_477 (Nat.le_of_ble_eq_true rfl) dX4_trace_91 rfl (fun v4 => ?_)
        refine q_istoreA hC (loc' := [(6, .int v4), (0, .ref x0), (1, .int x1), (2, .int x2), (3, .int x3), (4, .int x4), (5, .int x5)]) dX4_trace_94 (Nat.le_of_ble_eq_true rfl) rfl ?_
        refine q_iload hC 6 dX4_trace_96 rfl ?_
        refine q_aload_n hC 1 dX4_trace_98 rfl rfl ?_
        refine q_getR hC (by decide) (by decide) rfl w_118 dX4_trace_99 (fun r5 => ?_)
        refine q_getR hC (by decide) (by decide) rfl w_506 dX4_trace_102 (fun r6 => ?_)
        refine q_iload_n hC 4 dX4_trace_105 rfl rfl ?_
        refine q_iload hC 0 dX4_trace_106 rfl ?_
        refine q_cVI hC hnt (stk := [.int x5]) (as := [.int x3, .int v4]) sX9_distance (ci := 9) (by decide) rfl nX9_distance rfl w_507 w_371 w_372 w_65 w_370 (Nat.le_of_ble_eq_true rfl) dX4_trace_108 rfl (fun v7 => ?_)
        refine q_iadd hC dX4_trace_111 ?_
        refine q_istore hC (fun y5_8 => [(5, .int y5_8), (6, .int v4), (0, .ref x0), (1, .int x1), (2, .int x2), (3, .int x3), (4, .int x4)]) dX4_trace_112 (Nat.le_of_ble_eq_true rfl) (fun _ => rfl) (fun y5_8 => ?_)
        refine q_iload hC 1 dX4_trace_114 rfl ?_
        refine q_istore_nA hC (loc' := [(3, .int v4), (5, .int y5_8), (6, .int v4), (0, .ref x0), (1, .int x1), (2, .int x2), (4, .int x4)]) dX4_trace_116 rfl (Nat.le_of_ble_eq_true rfl) rfl ?_
        refine q_iincA hC (loc' := [(4, .int (x4 + 1)), (3, .int v4), (5, .int y5_8), (6, .int v4), (0, .ref x0), (1, .int x1), (2, .int x2)]) 6 1 dX4_trace_117 rfl rfl (Nat.le_of_ble_eq_true rfl) rfl ?_
        refine q_goto hC 55 dX4_trace_120 rfl ?_
        exact c_sub [4, 5, 6, 1, 0, 2] rfl (hJ 1 [.ref x0, .int x1, .int x2, .int v4, .int (x4 + 1), .int y5_8])
  · exact c_no
theorem pX4_trace_2 {Γ : CT} (hC : Ctx Γ "SpiritWall$Loops" cX4_trace 7 none rmX4_trace) (hnt : NT Γ) (J : JT) (hJ : ∀ L a, Cor Γ 7 (lX4_trace L a).1 (lX4_trace L a).2.1 (lX4_trace L a).2.2.1 (lX4_trace L a).2.2.2.1 (lX4_trace L a).2.2.2.2 (J L a)) (a : List Value) : Cor Γ 7 0 0 123 (List.zip [0, 1, 2, 4, 5] a) [] (bX4_trace_2 J a) := by
  unfold bX4_trace_2
  split
  · rename_i x0 x1 x2 x4 x5
    refine c_sub [0, 1, 2, 3, 4] rfl (loc' := [(0, .ref x0), (1, .int x1), (2, .int x2), (4, .int x4), (5, .int x5)]) ?_
    refine q_aload_n hC 0 dX4_trace_123 rfl rfl ?_
    refine q_getR hC (by decide) (by decide) rfl w_112 dX4_trace_124 (fun r1 => ?_)
    refine q_aload_n hC 0 dX4_trace_127 rfl rfl ?_
    refine q_getI hC (by decide) (by decide) rfl w_110 dX4_trace_128 (fun v2 => ?_)
    refine q_iload hC 3 dX4_trace_131 rfl ?_
    refine q_cNV hC hnt (stk := []) (as := [.ref r1, .int v2, .int x4]) sX10_put nX10_put rfl w_504 w_187 w_27 w_186 (Nat.le_of_ble_eq_true rfl) dX4_trace_133 rfl ?_
    refine q_aload_n hC 0 dX4_trace_136 rfl rfl ?_
    refine q_getR hC (by decide) (by decide) rfl w_113 dX4_trace_137 (fun r3 => ?_)
    refine q_aload_n hC 0 dX4_trace_140 rfl rfl ?_
    refine q_getI hC (by decide) (by decide) rfl w_110 dX4_trace_141 (fun v4 => ?_)
    refine q_iload hC 4 dX4_trace_144 rfl ?_
    refine q_cNV hC hnt (stk := []) (as := [.ref r3, .int v4, .int x5]) sX10_put nX10_put rfl w_504 w_187 w_27 w_186 (Nat.le_of_ble_eq_true rfl) dX4_trace_146 rfl ?_
    refine q_aload_n hC 0 dX4_trace_149 rfl rfl ?_
    refine q_getR hC (by decide) (by decide) rfl w_114 dX4_trace_150 (fun r5 => ?_)
    refine q_aload_n hC 0 dX4_trace_153 rfl rfl ?_
    refine q_getI hC (by decide) (by decide) rfl w_110 dX4_trace_154 (fun v6 => ?_)
    refine q_aload_n hC 0 dX4_trace_157 rfl rfl ?_
    refine q_getR hC (by decide) (by decide) rfl w_118 dX4_trace_158 (fun r7 => ?_)
    refine q_getR hC (by decide) (by decide) rfl w_508 dX4_trace_161 (fun r8 => ?_)
    refine q_iload_n hC 1 dX4_trace_164 rfl rfl ?_
    refine q_cNI hC hnt (stk := [.int v6, .ref r5]) (as := [.ref r8, .int x1]) sX10_cell nX10_cell rfl w_501 w_202 w_27 w_201 (Nat.le_of_ble_eq_true rfl) dX4_trace_165 rfl (fun v9 => ?_)
    refine q_aload_n hC 0 dX4_trace_168 rfl rfl ?_
    refine q_getR hC (by decide) (by decide) rfl w_119 dX4_trace_169 (fun r10 => ?_)
    refine q_aload_n hC 0 dX4_trace_172 rfl rfl ?_
    refine q_getR hC (by decide) (by decide) rfl w_118 dX4_trace_173 (fun r11 => ?_)
    refine q_getR hC (by decide) (by decide) rfl w_502 dX4_trace_176 (fun r12 => ?_)
    refine q_iload_n hC 1 dX4_trace_179 rfl rfl ?_
    refine q_cNI hC hnt (stk := [.ref r10, .int v9, .int v6, .ref r5]) (as := [.ref r12, .int x1]) sX10_cell nX10_cell rfl w_501 w_202 w_27 w_201 (Nat.le_of_ble_eq_true rfl) dX4_trace_180 rfl (fun v13 => ?_)
    refine q_iload_n hC 2 dX4_trace_183 rfl rfl ?_
    refine q_cVI hC hnt (stk := [.int v9, .int v6, .ref r5]) (as := [.int v13, .int x2]) sX1_climbOf (ci := 1) (by decide) rfl nX1_climbOf rfl w_509 w_473 w_474 w_154 w_472 (Nat.le_of_ble_eq_true rfl) dX4_trace_184 rfl (fun v14 => ?_)
    refine q_iadd hC dX4_trace_187 ?_
    refine q_cNV hC hnt (stk := []) (as := [.ref r5, .int v6, .int (v9 + v14)]) sX10_put nX10_put rfl w_504 w_187 w_27 w_186 (Nat.le_of_ble_eq_true rfl) dX4_trace_188 rfl ?_
    exact q_vret hC dX4_trace_191 (Nat.le_of_ble_eq_true rfl) (Nat.le_of_ble_eq_true rfl)
  · exact c_no
theorem sX4_trace : Snd yX4_trace (.code yX4_trace cX4_trace 7 none) rmX4_trace SX4_trace := by
  refine Snd.of lX4_trace (by decide +kernel) (fun _ => rfl) ?_
  intro Γ hC hnt hnm J hJ L a
  match L with
  | 0 => exact pX4_trace_0 hC hnt J hJ a
  | 1 => exact pX4_trace_1 hC hnt J hJ a
  | 2 => exact pX4_trace_2 hC hnt J hJ a
  | L + 3 => exact c_no
/-! SpiritWall$Loops.square(I)J -/
theorem dX4_square_0 : decode cX4_square 0 = .ok (.aload_n 0, 1) := by decide +kernel
theorem dX4_square_1 : decode cX4_square 1 = .ok (.getfield 25, 3) := by decide +kernel
theorem dX4_square_4 : decode cX4_square 4 = .ok (.iload_n 1, 1) := by decide +kernel
theorem dX4_square_5 : decode cX4_square 5 = .ok (.invokestatic 57, 3) := by decide +kernel
theorem dX4_square_8 : decode cX4_square 8 = .ok (.i2l, 1) := by decide +kernel
theorem dX4_square_9 : decode cX4_square 9 = .ok (.lstore_n 2, 1) := by decide +kernel
theorem dX4_square_10 : decode cX4_square 10 = .ok (.lload_n 2, 1) := by decide +kernel
theorem dX4_square_11 : decode cX4_square 11 = .ok (.lload_n 2, 1) := by decide +kernel
theorem dX4_square_12 : decode cX4_square 12 = .ok (.lmul, 1) := by decide +kernel
theorem dX4_square_13 : decode cX4_square 13 = .ok (.lreturn, 1) := by decide +kernel
def rmX4_square : Room := rmk 7 0 0 171
theorem nX4_square : nameOk yX4_square 1 = true := by decide +kernel
def bX4_square_0 (J : JT) : List Value → Sem
  | [.ref x0, .int x1] =>
    gR 4 6 x0 fun r1 =>
    cI SX10_cell [.ref r1, .int x1] fun v2 =>
    lJ (v2.toInt64) fun y2_3 =>
    rJ (y2_3 * y2_3)
  | _ => no
def bX4_square (J : JT) : JT := fun L a => match L with
  | 0 => bX4_square_0 J a
  | _ => no
def SX4_square : ST := mk 4 bX4_square
def lX4_square (L : Nat) (a : List Value) : Nat × Nat × Nat × List (Nat × Value) × List Value := match L with
  | 0 => (0, 0, 0, lv_args 0 a, [])
  | _ => (0, 0, 0, [], [])
theorem pX4_square_0 {Γ : CT} (hC : Ctx Γ "SpiritWall$Loops" cX4_square 4 (some .long) rmX4_square) (hnt : NT Γ) (J : JT) (hJ : ∀ L a, Cor Γ 4 (lX4_square L a).1 (lX4_square L a).2.1 (lX4_square L a).2.2.1 (lX4_square L a).2.2.2.1 (lX4_square L a).2.2.2.2 (J L a)) (a : List Value) : Cor Γ 4 0 0 0 (lv_args 0 a) [] (bX4_square_0 J a) := by
  unfold bX4_square_0
  split
  · rename_i x0 x1
    refine c_sub [0, 1] rfl (loc' := [(0, .ref x0), (1, .int x1)]) ?_
    refine q_aload_n hC 0 dX4_square_0 rfl rfl ?_
    refine q_getR hC (by decide) (by decide) rfl w_114 dX4_square_1 (fun r1 => ?_)
    refine q_iload_n hC 1 dX4_square_4 rfl rfl ?_
    refine q_cNI hC hnt (stk := []) (as := [.ref r1, .int x1]) sX10_cell nX10_cell rfl w_501 w_202 w_27 w_201 (Nat.le_of_ble_eq_true rfl) dX4_square_5 rfl (fun v2 => ?_)
    refine q_i2l hC dX4_square_8 ?_
    refine q_lstore_n hC (fun y2_3 => [(2, .long y2_3), (0, .ref x0), (1, .int x1)]) dX4_square_9 rfl (Nat.le_of_ble_eq_true rfl) (fun _ => rfl) (fun y2_3 => ?_)
    refine q_lload_n hC 0 dX4_square_10 rfl rfl ?_
    refine q_lload_n hC 0 dX4_square_11 rfl rfl ?_
    refine q_lmul hC dX4_square_12 ?_
    exact q_lret hC dX4_square_13 (Nat.le_of_ble_eq_true rfl) (Nat.le_of_ble_eq_true rfl)
  · exact c_no
theorem sX4_square : Snd yX4_square (.code yX4_square cX4_square 4 (some .long)) rmX4_square SX4_square := by
  refine Snd.of lX4_square (by decide +kernel) (fun _ => rfl) ?_
  intro Γ hC hnt hnm J hJ L a
  match L with
  | 0 => exact pX4_square_0 hC hnt J hJ a
  | L + 1 => exact c_no
/-! SpiritWall$Loops.closes(II)Z -/
theorem dX4_closes_0 : decode cX4_closes 0 = .ok (.ldc2_w 114, 3) := by decide +kernel
theorem dX4_closes_3 : decode cX4_closes 3 = .ok (.aload_n 0, 1) := by decide +kernel
theorem dX4_closes_4 : decode cX4_closes 4 = .ok (.iload_n 1, 1) := by decide +kernel
theorem dX4_closes_5 : decode cX4_closes 5 = .ok (.invokevirtual 116, 3) := by decide +kernel
theorem dX4_closes_8 : decode cX4_closes 8 = .ok (.lmul, 1) := by decide +kernel
theorem dX4_closes_9 : decode cX4_closes 9 = .ok (.aload_n 0, 1) := by decide +kernel
theorem dX4_closes_10 : decode cX4_closes 10 = .ok (.getfield 22, 3) := by decide +kernel
theorem dX4_closes_13 : decode cX4_closes 13 = .ok (.iload_n 1, 1) := by decide +kernel
theorem dX4_closes_14 : decode cX4_closes 14 = .ok (.invokestatic 57, 3) := by decide +kernel
theorem dX4_closes_17 : decode cX4_closes 17 = .ok (.i2l, 1) := by decide +kernel
theorem dX4_closes_18 : decode cX4_closes 18 = .ok (.iload_n 2, 1) := by decide +kernel
theorem dX4_closes_19 : decode cX4_closes 19 = .ok (.i2l, 1) := by decide +kernel
theorem dX4_closes_20 : decode cX4_closes 20 = .ok (.lmul, 1) := by decide +kernel
theorem dX4_closes_21 : decode cX4_closes 21 = .ok (.iload_n 2, 1) := by decide +kernel
theorem dX4_closes_22 : decode cX4_closes 22 = .ok (.i2l, 1) := by decide +kernel
theorem dX4_closes_23 : decode cX4_closes 23 = .ok (.lmul, 1) := by decide +kernel
theorem dX4_closes_24 : decode cX4_closes 24 = .ok (.lcmp, 1) := by decide +kernel
theorem dX4_closes_25 : decode cX4_closes 25 = .ok (.ifCond .gt 7, 3) := by decide +kernel
theorem dX4_closes_28 : decode cX4_closes 28 = .ok (.iconst 1, 1) := by decide +kernel
theorem dX4_closes_29 : decode cX4_closes 29 = .ok (.goto 4, 3) := by decide +kernel
theorem dX4_closes_32 : decode cX4_closes 32 = .ok (.iconst 0, 1) := by decide +kernel
theorem dX4_closes_33 : decode cX4_closes 33 = .ok (.ireturn, 1) := by decide +kernel
def rmX4_closes : Room := rmk 8 0 0 194
theorem nX4_closes : nameOk yX4_closes 2 = true := by decide +kernel
def bX4_closes_0 (J : JT) : List Value → Sem
  | [.ref x0, .int x1, .int x2] =>
    ob 4 x0 (cJ SX4_square [.ref x0, .int x1] fun v1 =>
    gR 4 5 x0 fun r2 =>
    cI SX10_cell [.ref r2, .int x1] fun v3 =>
    br (0 < (lg_cmp (1000 * v1) (((v3.toInt64) * (x2.toInt64)) * (x2.toInt64))))
    (rZ 0)
    (rZ 1))
  | _ => no
def bX4_closes (J : JT) : JT := fun L a => match L with
  | 0 => bX4_closes_0 J a
  | _ => no
def SX4_closes : ST := mk 3 bX4_closes
def lX4_closes (L : Nat) (a : List Value) : Nat × Nat × Nat × List (Nat × Value) × List Value := match L with
  | 0 => (0, 0, 0, lv_args 0 a, [])
  | _ => (0, 0, 0, [], [])
theorem pX4_closes_0 {Γ : CT} (hC : Ctx Γ "SpiritWall$Loops" cX4_closes 3 (some .boolean) rmX4_closes) (hnt : NT Γ) (J : JT) (hJ : ∀ L a, Cor Γ 3 (lX4_closes L a).1 (lX4_closes L a).2.1 (lX4_closes L a).2.2.1 (lX4_closes L a).2.2.2.1 (lX4_closes L a).2.2.2.2 (J L a)) (a : List Value) : Cor Γ 3 0 0 0 (lv_args 0 a) [] (bX4_closes_0 J a) := by
  unfold bX4_closes_0
  split
  · rename_i x0 x1 x2
    refine c_sub [0, 1, 2] rfl (loc' := [(0, .ref x0), (1, .int x1), (2, .int x2)]) ?_
    refine q_ldc2 hC w_510 dX4_closes_0 ?_
    refine q_aload_n hC 0 dX4_closes_3 rfl rfl ?_
    refine q_iload_n hC 1 dX4_closes_4 rfl rfl ?_
    refine q_cVJ hC hnt (stk := [.long 1000]) (as := [.int x1]) sX4_square (ci := 4) (by decide) rfl nX4_square rfl w_511 w_513 w_514 w_159 w_512 (Nat.le_of_ble_eq_true rfl) dX4_closes_5 rfl (fun v1 => ?_)
    refine q_lmul hC dX4_closes_8 ?_
    refine q_aload_n hC 0 dX4_closes_9 rfl rfl ?_
    refine q_getR hC (by decide) (by decide) rfl w_113 dX4_closes_10 (fun r2 => ?_)
    refine q_iload_n hC 1 dX4_closes_13 rfl rfl ?_
    refine q_cNI hC hnt (stk := [.long (1000 * v1)]) (as := [.ref r2, .int x1]) sX10_cell nX10_cell rfl w_501 w_202 w_27 w_201 (Nat.le_of_ble_eq_true rfl) dX4_closes_14 rfl (fun v3 => ?_)
    refine q_i2l hC dX4_closes_17 ?_
    refine q_iload_n hC 2 dX4_closes_18 rfl rfl ?_
    refine q_i2l hC dX4_closes_19 ?_
    refine q_lmul hC dX4_closes_20 ?_
    refine q_iload_n hC 2 dX4_closes_21 rfl rfl ?_
    refine q_i2l hC dX4_closes_22 ?_
    refine q_lmul hC dX4_closes_23 ?_
    refine q_lcmp hC dX4_closes_24 ?_
    refine q_if_gt hC 32 dX4_closes_25 rfl ?_ ?_
    · refine q_iconst hC dX4_closes_32 rfl ?_
      exact q_zret hC dX4_closes_33 (Nat.le_of_ble_eq_true rfl) (Nat.le_of_ble_eq_true rfl)
    · refine q_iconst hC dX4_closes_28 rfl ?_
      refine q_goto hC 33 dX4_closes_29 rfl ?_
      exact q_zret hC dX4_closes_33 (Nat.le_of_ble_eq_true rfl) (Nat.le_of_ble_eq_true rfl)
  · exact c_no
theorem sX4_closes : Snd yX4_closes (.code yX4_closes cX4_closes 3 (some .boolean)) rmX4_closes SX4_closes := by
  refine Snd.of lX4_closes (by decide +kernel) (fun _ => rfl) ?_
  intro Γ hC hnt hnm J hJ L a
  match L with
  | 0 => exact pX4_closes_0 hC hnt J hJ a
  | L + 1 => exact c_no
/-! SpiritWall$Loops.markAt(II)I -/
theorem dX4_markAt_0 : decode cX4_markAt 0 = .ok (.iload_n 2, 1) := by decide +kernel
theorem dX4_markAt_1 : decode cX4_markAt 1 = .ok (.ifCond .lt 31, 3) := by decide +kernel
theorem dX4_markAt_4 : decode cX4_markAt 4 = .ok (.iload_n 2, 1) := by decide +kernel
theorem dX4_markAt_5 : decode cX4_markAt 5 = .ok (.aload_n 0, 1) := by decide +kernel
theorem dX4_markAt_6 : decode cX4_markAt 6 = .ok (.getfield 18, 3) := by decide +kernel
theorem dX4_markAt_9 : decode cX4_markAt 9 = .ok (.iload_n 1, 1) := by decide +kernel
theorem dX4_markAt_10 : decode cX4_markAt 10 = .ok (.invokestatic 57, 3) := by decide +kernel
theorem dX4_markAt_13 : decode cX4_markAt 13 = .ok (.if_icmp .ge 19, 3) := by decide +kernel
theorem dX4_markAt_16 : decode cX4_markAt 16 = .ok (.aload_n 0, 1) := by decide +kernel
theorem dX4_markAt_17 : decode cX4_markAt 17 = .ok (.getfield 28, 3) := by decide +kernel
theorem dX4_markAt_20 : decode cX4_markAt 20 = .ok (.bipush 12, 2) := by decide +kernel
theorem dX4_markAt_22 : decode cX4_markAt 22 = .ok (.iload_n 1, 1) := by decide +kernel
theorem dX4_markAt_23 : decode cX4_markAt 23 = .ok (.imul, 1) := by decide +kernel
theorem dX4_markAt_24 : decode cX4_markAt 24 = .ok (.iload_n 2, 1) := by decide +kernel
theorem dX4_markAt_25 : decode cX4_markAt 25 = .ok (.iadd, 1) := by decide +kernel
theorem dX4_markAt_26 : decode cX4_markAt 26 = .ok (.invokestatic 57, 3) := by decide +kernel
theorem dX4_markAt_29 : decode cX4_markAt 29 = .ok (.goto 4, 3) := by decide +kernel
theorem dX4_markAt_32 : decode cX4_markAt 32 = .ok (.iconst (-1), 1) := by decide +kernel
theorem dX4_markAt_33 : decode cX4_markAt 33 = .ok (.ireturn, 1) := by decide +kernel
def rmX4_markAt : Room := rmk 7 0 0 171
theorem nX4_markAt : nameOk yX4_markAt 2 = true := by decide +kernel
def bX4_markAt_0 (J : JT) : List Value → Sem
  | [.ref x0, .int x1, .int x2] =>
    br (x2 < 0)
    (rI (-1))
    (gR 4 4 x0 fun r1 =>
    cI SX10_cell [.ref r1, .int x1] fun v2 =>
    br (v2 ≤ x2)
    (rI (-1))
    (gR 4 7 x0 fun r3 =>
    cI SX10_cell [.ref r3, .int ((12 * x1) + x2)] fun v4 =>
    rI v4))
  | _ => no
def bX4_markAt (J : JT) : JT := fun L a => match L with
  | 0 => bX4_markAt_0 J a
  | _ => no
def SX4_markAt : ST := mk 3 bX4_markAt
def lX4_markAt (L : Nat) (a : List Value) : Nat × Nat × Nat × List (Nat × Value) × List Value := match L with
  | 0 => (0, 0, 0, lv_args 0 a, [])
  | _ => (0, 0, 0, [], [])
theorem pX4_markAt_0 {Γ : CT} (hC : Ctx Γ "SpiritWall$Loops" cX4_markAt 3 (some .int) rmX4_markAt) (hnt : NT Γ) (J : JT) (hJ : ∀ L a, Cor Γ 3 (lX4_markAt L a).1 (lX4_markAt L a).2.1 (lX4_markAt L a).2.2.1 (lX4_markAt L a).2.2.2.1 (lX4_markAt L a).2.2.2.2 (J L a)) (a : List Value) : Cor Γ 3 0 0 0 (lv_args 0 a) [] (bX4_markAt_0 J a) := by
  unfold bX4_markAt_0
  split
  · rename_i x0 x1 x2
    refine c_sub [0, 1, 2] rfl (loc' := [(0, .ref x0), (1, .int x1), (2, .int x2)]) ?_
    refine q_iload_n hC 2 dX4_markAt_0 rfl rfl ?_
    refine q_if_lt hC 32 dX4_markAt_1 rfl ?_ ?_
    · refine q_iconst hC dX4_markAt_32 rfl ?_
      exact q_iret hC dX4_markAt_33 (Nat.le_of_ble_eq_true rfl) (Nat.le_of_ble_eq_true rfl)
    · refine q_iload_n hC 2 dX4_markAt_4 rfl rfl ?_
      refine q_aload_n hC 0 dX4_markAt_5 rfl rfl ?_
      refine q_getR hC (by decide) (by decide) rfl w_112 dX4_markAt_6 (fun r1 => ?_)
      refine q_iload_n hC 1 dX4_markAt_9 rfl rfl ?_
      refine q_cNI hC hnt (stk := [.int x2]) (as := [.ref r1, .int x1]) sX10_cell nX10_cell rfl w_501 w_202 w_27 w_201 (Nat.le_of_ble_eq_true rfl) dX4_markAt_10 rfl (fun v2 => ?_)
      refine q_ic_ge hC 32 dX4_markAt_13 rfl ?_ ?_
      · refine q_iconst hC dX4_markAt_32 rfl ?_
        exact q_iret hC dX4_markAt_33 (Nat.le_of_ble_eq_true rfl) (Nat.le_of_ble_eq_true rfl)
      · refine q_aload_n hC 0 dX4_markAt_16 rfl rfl ?_
        refine q_getR hC (by decide) (by decide) rfl w_115 dX4_markAt_17 (fun r3 => ?_)
        refine q_bipush hC (v := 12) dX4_markAt_20 rfl ?_
        refine q_iload_n hC 1 dX4_markAt_22 rfl rfl ?_
        refine q_imul hC dX4_markAt_23 ?_
        refine q_iload_n hC 2 dX4_markAt_24 rfl rfl ?_
        refine q_iadd hC dX4_markAt_25 ?_
        refine q_cNI hC hnt (stk := []) (as := [.ref r3, .int ((12 * x1) + x2)]) sX10_cell nX10_cell rfl w_501 w_202 w_27 w_201 (Nat.le_of_ble_eq_true rfl) dX4_markAt_26 rfl (fun v4 => ?_)
        refine q_goto hC 33 dX4_markAt_29 rfl ?_
        exact q_iret hC dX4_markAt_33 (Nat.le_of_ble_eq_true rfl) (Nat.le_of_ble_eq_true rfl)
  · exact c_no
theorem sX4_markAt : Snd yX4_markAt (.code yX4_markAt cX4_markAt 3 (some .int)) rmX4_markAt SX4_markAt := by
  refine Snd.of lX4_markAt (by decide +kernel) (fun _ => rfl) ?_
  intro Γ hC hnt hnm J hJ L a
  match L with
  | 0 => exact pX4_markAt_0 hC hnt J hJ a
  | L + 1 => exact c_no
