/-! SpiritWall$Loops.countEdges(Z)V -/
theorem dX4_countEdges_0 : decode cX4_countEdges 0 = .ok (.aload_n 0, 1) := by decide +kernel
theorem dX4_countEdges_1 : decode cX4_countEdges 1 = .ok (.getfield 18, 3) := by decide +kernel
theorem dX4_countEdges_4 : decode cX4_countEdges 4 = .ok (.aload_n 0, 1) := by decide +kernel
theorem dX4_countEdges_5 : decode cX4_countEdges 5 = .ok (.getfield 9, 3) := by decide +kernel
theorem dX4_countEdges_8 : decode cX4_countEdges 8 = .ok (.invokestatic 57, 3) := by decide +kernel
theorem dX4_countEdges_11 : decode cX4_countEdges 11 = .ok (.istore_n 2, 1) := by decide +kernel
theorem dX4_countEdges_12 : decode cX4_countEdges 12 = .ok (.iconst 0, 1) := by decide +kernel
theorem dX4_countEdges_13 : decode cX4_countEdges 13 = .ok (.istore_n 3, 1) := by decide +kernel
theorem dX4_countEdges_14 : decode cX4_countEdges 14 = .ok (.iload_n 3, 1) := by decide +kernel
theorem dX4_countEdges_15 : decode cX4_countEdges 15 = .ok (.iload_n 2, 1) := by decide +kernel
theorem dX4_countEdges_16 : decode cX4_countEdges 16 = .ok (.if_icmp .ge 73, 3) := by decide +kernel
theorem dX4_countEdges_19 : decode cX4_countEdges 19 = .ok (.aload_n 0, 1) := by decide +kernel
theorem dX4_countEdges_20 : decode cX4_countEdges 20 = .ok (.getfield 37, 3) := by decide +kernel
theorem dX4_countEdges_23 : decode cX4_countEdges 23 = .ok (.aload_n 0, 1) := by decide +kernel
theorem dX4_countEdges_24 : decode cX4_countEdges 24 = .ok (.aload_n 0, 1) := by decide +kernel
theorem dX4_countEdges_25 : decode cX4_countEdges 25 = .ok (.getfield 9, 3) := by decide +kernel
theorem dX4_countEdges_28 : decode cX4_countEdges 28 = .ok (.iload_n 3, 1) := by decide +kernel
theorem dX4_countEdges_29 : decode cX4_countEdges 29 = .ok (.invokevirtual 105, 3) := by decide +kernel
theorem dX4_countEdges_32 : decode cX4_countEdges 32 = .ok (.aload_n 0, 1) := by decide +kernel
theorem dX4_countEdges_33 : decode cX4_countEdges 33 = .ok (.aload_n 0, 1) := by decide +kernel
theorem dX4_countEdges_34 : decode cX4_countEdges 34 = .ok (.getfield 9, 3) := by decide +kernel
theorem dX4_countEdges_37 : decode cX4_countEdges 37 = .ok (.iload_n 3, 1) := by decide +kernel
theorem dX4_countEdges_38 : decode cX4_countEdges 38 = .ok (.iconst 1, 1) := by decide +kernel
theorem dX4_countEdges_39 : decode cX4_countEdges 39 = .ok (.iadd, 1) := by decide +kernel
theorem dX4_countEdges_40 : decode cX4_countEdges 40 = .ok (.iload_n 2, 1) := by decide +kernel
theorem dX4_countEdges_41 : decode cX4_countEdges 41 = .ok (.if_icmp .ge 9, 3) := by decide +kernel
theorem dX4_countEdges_44 : decode cX4_countEdges 44 = .ok (.iload_n 3, 1) := by decide +kernel
theorem dX4_countEdges_45 : decode cX4_countEdges 45 = .ok (.iconst 1, 1) := by decide +kernel
theorem dX4_countEdges_46 : decode cX4_countEdges 46 = .ok (.iadd, 1) := by decide +kernel
theorem dX4_countEdges_47 : decode cX4_countEdges 47 = .ok (.goto 4, 3) := by decide +kernel
theorem dX4_countEdges_50 : decode cX4_countEdges 50 = .ok (.iconst 0, 1) := by decide +kernel
theorem dX4_countEdges_51 : decode cX4_countEdges 51 = .ok (.invokevirtual 105, 3) := by decide +kernel
theorem dX4_countEdges_54 : decode cX4_countEdges 54 = .ok (.invokevirtual 108, 3) := by decide +kernel
theorem dX4_countEdges_57 : decode cX4_countEdges 57 = .ok (.istore 4, 2) := by decide +kernel
theorem dX4_countEdges_59 : decode cX4_countEdges 59 = .ok (.aload_n 0, 1) := by decide +kernel
theorem dX4_countEdges_60 : decode cX4_countEdges 60 = .ok (.getfield 31, 3) := by decide +kernel
theorem dX4_countEdges_63 : decode cX4_countEdges 63 = .ok (.iload 4, 2) := by decide +kernel
theorem dX4_countEdges_65 : decode cX4_countEdges 65 = .ok (.iconst 1, 1) := by decide +kernel
theorem dX4_countEdges_66 : decode cX4_countEdges 66 = .ok (.invokestatic 111, 3) := by decide +kernel
theorem dX4_countEdges_69 : decode cX4_countEdges 69 = .ok (.iload_n 1, 1) := by decide +kernel
theorem dX4_countEdges_70 : decode cX4_countEdges 70 = .ok (.ifCond .ne 13, 3) := by decide +kernel
theorem dX4_countEdges_73 : decode cX4_countEdges 73 = .ok (.aload_n 0, 1) := by decide +kernel
theorem dX4_countEdges_74 : decode cX4_countEdges 74 = .ok (.getfield 34, 3) := by decide +kernel
theorem dX4_countEdges_77 : decode cX4_countEdges 77 = .ok (.iload 4, 2) := by decide +kernel
theorem dX4_countEdges_79 : decode cX4_countEdges 79 = .ok (.iconst 1, 1) := by decide +kernel
theorem dX4_countEdges_80 : decode cX4_countEdges 80 = .ok (.invokestatic 111, 3) := by decide +kernel
theorem dX4_countEdges_83 : decode cX4_countEdges 83 = .ok (.iinc 3 1, 3) := by decide +kernel
theorem dX4_countEdges_86 : decode cX4_countEdges 86 = .ok (.goto (-72), 3) := by decide +kernel
theorem dX4_countEdges_89 : decode cX4_countEdges 89 = .ok (.return_, 1) := by decide +kernel
def rmX4_countEdges : Room := rmk 8 0 0 194
theorem nX4_countEdges : nameOk yX4_countEdges 1 = true := by decide +kernel
def bX4_countEdges_0 (J : JT) : List Value → Sem
  | [.ref x0, .int x1] =>
    gR 4 4 x0 fun r1 =>
    gI 4 2 x0 fun v2 =>
    cI SX10_cell [.ref r1, .int v2] fun v3 =>
    J 1 [.ref x0, .int x1, .int v3, .int 0]
  | _ => no
def bX4_countEdges_1 (J : JT) : List Value → Sem
  | [.ref x0, .int x1, .int x2, .int x3] =>
    br (x2 ≤ x3)
    (rV)
    (gR 4 0 x0 fun r1 =>
    gI 4 2 x0 fun v2 =>
    ob 4 x0 (cI SX4_markAt [.ref x0, .int v2, .int x3] fun v3 =>
    gI 4 2 x0 fun v4 =>
    br (x2 ≤ (x3 + 1))
    (ob 4 x0 (cI SX4_markAt [.ref x0, .int v4, .int 0] fun v5 =>
    ob 0 r1 (cI SX0_between [.ref r1, .int v3, .int v5] fun v6 =>
    gR 4 8 x0 fun r7 =>
    cV SX10_addTo [.ref r7, .int v6, .int 1] <|
    br (x1 = 0)
    (gR 4 9 x0 fun r8 =>
    cV SX10_addTo [.ref r8, .int v6, .int 1] <|
    J 1 [.ref x0, .int x1, .int x2, .int (x3 + 1)])
    (J 1 [.ref x0, .int x1, .int x2, .int (x3 + 1)]))))
    (ob 4 x0 (cI SX4_markAt [.ref x0, .int v4, .int (x3 + 1)] fun v9 =>
    ob 0 r1 (cI SX0_between [.ref r1, .int v3, .int v9] fun v10 =>
    gR 4 8 x0 fun r11 =>
    cV SX10_addTo [.ref r11, .int v10, .int 1] <|
    br (x1 = 0)
    (gR 4 9 x0 fun r12 =>
    cV SX10_addTo [.ref r12, .int v10, .int 1] <|
    J 1 [.ref x0, .int x1, .int x2, .int (x3 + 1)])
    (J 1 [.ref x0, .int x1, .int x2, .int (x3 + 1)]))))))
  | _ => no
def bX4_countEdges (J : JT) : JT := fun L a => match L with
  | 0 => bX4_countEdges_0 J a
  | 1 => bX4_countEdges_1 J a
  | _ => no
def SX4_countEdges : ST := mk 5 bX4_countEdges
def lX4_countEdges (L : Nat) (a : List Value) : Nat × Nat × Nat × List (Nat × Value) × List Value := match L with
  | 0 => (0, 0, 0, lv_args 0 a, [])
  | 1 => (0, 0, 14, List.zip [0, 1, 2, 3] a, [])
  | _ => (0, 0, 0, [], [])
theorem pX4_countEdges_0 {Γ : CT} (hC : Ctx Γ "SpiritWall$Loops" cX4_countEdges 5 none rmX4_countEdges) (hnt : NT Γ) (J : JT) (hJ : ∀ L a, Cor Γ 5 (lX4_countEdges L a).1 (lX4_countEdges L a).2.1 (lX4_countEdges L a).2.2.1 (lX4_countEdges L a).2.2.2.1 (lX4_countEdges L a).2.2.2.2 (J L a)) (a : List Value) : Cor Γ 5 0 0 0 (lv_args 0 a) [] (bX4_countEdges_0 J a) := by
  unfold bX4_countEdges_0
  split
  · rename_i x0 x1
    refine c_sub [0, 1] rfl (loc' := [(0, .ref x0), (1, .int x1)]) ?_
    refine q_aload_n hC 0 dX4_countEdges_0 rfl rfl ?_
    refine q_getR hC (by decide) (by decide) rfl w_112 dX4_countEdges_1 (fun r1 => ?_)
    refine q_aload_n hC 0 dX4_countEdges_4 rfl rfl ?_
    refine q_getI hC (by decide) (by decide) rfl w_110 dX4_countEdges_5 (fun v2 => ?_)
    refine q_cNI hC hnt (stk := []) (as := [.ref r1, .int v2]) sX10_cell nX10_cell rfl w_501 w_202 w_27 w_201 (Nat.le_of_ble_eq_true rfl) dX4_countEdges_8 rfl (fun v3 => ?_)
    refine q_istore_nA hC (loc' := [(2, .int v3), (0, .ref x0), (1, .int x1)]) dX4_countEdges_11 rfl (Nat.le_of_ble_eq_true rfl) rfl ?_
    refine q_iconst hC dX4_countEdges_12 rfl ?_
    refine q_istore_nA hC (loc' := [(3, .int 0), (2, .int v3), (0, .ref x0), (1, .int x1)]) dX4_countEdges_13 rfl (Nat.le_of_ble_eq_true rfl) rfl ?_
    exact c_sub [2, 3, 1, 0] rfl (hJ 1 [.ref x0, .int x1, .int v3, .int 0])
  · exact c_no
theorem pX4_countEdges_1 {Γ : CT} (hC : Ctx Γ "SpiritWall$Loops" cX4_countEdges 5 none rmX4_countEdges) (hnt : NT Γ) (J : JT) (hJ : ∀ L a, Cor Γ 5 (lX4_countEdges L a).1 (lX4_countEdges L a).2.1 (lX4_countEdges L a).2.2.1 (lX4_countEdges L a).2.2.2.1 (lX4_countEdges L a).2.2.2.2 (J L a)) (a : List Value) : Cor Γ 5 0 0 14 (List.zip [0, 1, 2, 3] a) [] (bX4_countEdges_1 J a) := by
  unfold bX4_countEdges_1
  split
  · rename_i x0 x1 x2 x3
    refine c_sub [0, 1, 2, 3] rfl (loc' := [(0, .ref x0), (1, .int x1), (2, .int x2), (3, .int x3)]) ?_
    refine q_iload_n hC 3 dX4_countEdges_14 rfl rfl ?_
    refine q_iload_n hC 2 dX4_countEdges_15 rfl rfl ?_
    refine q_ic_ge hC 89 dX4_countEdges_16 rfl ?_ ?_
    · exact q_vret hC dX4_countEdges_89 (Nat.le_of_ble_eq_true rfl) (Nat.le_of_ble_eq_true rfl)
    · refine q_aload_n hC 0 dX4_countEdges_19 rfl rfl ?_
      refine q_getR hC (by decide) (by decide) rfl w_118 dX4_countEdges_20 (fun r1 => ?_)
      refine q_aload_n hC 0 dX4_countEdges_23 rfl rfl ?_
      refine q_aload_n hC 0 dX4_countEdges_24 rfl rfl ?_
      refine q_getI hC (by decide) (by decide) rfl w_110 dX4_countEdges_25 (fun v2 => ?_)
      refine q_iload_n hC 3 dX4_countEdges_28 rfl rfl ?_
      refine q_cVI hC hnt (stk := [.ref r1]) (as := [.int v2, .int x3]) sX4_markAt (ci := 4) (by decide) rfl nX4_markAt rfl w_515 w_517 w_518 w_159 w_516 (Nat.le_of_ble_eq_true rfl) dX4_countEdges_29 rfl (fun v3 => ?_)
      refine q_aload_n hC 0 dX4_countEdges_32 rfl rfl ?_
      refine q_aload_n hC 0 dX4_countEdges_33 rfl rfl ?_
      refine q_getI hC (by decide) (by decide) rfl w_110 dX4_countEdges_34 (fun v4 => ?_)
      refine q_iload_n hC 3 dX4_countEdges_37 rfl rfl ?_
      refine q_iconst hC dX4_countEdges_38 rfl ?_
      refine q_iadd hC dX4_countEdges_39 ?_
      refine q_iload_n hC 2 dX4_countEdges_40 rfl rfl ?_
      refine q_ic_ge hC 50 dX4_countEdges_41 rfl ?_ ?_
      · refine q_iconst hC dX4_countEdges_50 rfl ?_
        refine q_cVI hC hnt (stk := [.int v3, .ref r1]) (as := [.int v4, .int 0]) sX4_markAt (ci := 4) (by decide) rfl nX4_markAt rfl w_515 w_517 w_518 w_159 w_516 (Nat.le_of_ble_eq_true rfl) dX4_countEdges_51 rfl (fun v5 => ?_)
        refine q_cVI hC hnt (stk := []) (as := [.int v3, .int v5]) sX0_between (ci := 0) (by decide) rfl nX0_between rfl w_519 w_406 w_407 w_149 w_405 (Nat.le_of_ble_eq_true rfl) dX4_countEdges_54 rfl (fun v6 => ?_)
        refine q_istoreA hC (loc' := [(4, .int v6), (0, .ref x0), (1, .int x1), (2, .int x2), (3, .int x3)]) dX4_countEdges_57 (Nat.le_of_ble_eq_true rfl) rfl ?_
        refine q_aload_n hC 1 dX4_countEdges_59 rfl rfl ?_
        refine q_getR hC (by decide) (by decide) rfl w_116 dX4_countEdges_60 (fun r7 => ?_)
        refine q_iload hC 0 dX4_countEdges_63 rfl ?_
        refine q_iconst hC dX4_countEdges_65 rfl ?_
        refine q_cNV hC hnt (stk := []) (as := [.ref r7, .int v6, .int 1]) sX10_addTo nX10_addTo rfl w_520 w_416 w_27 w_415 (Nat.le_of_ble_eq_true rfl) dX4_countEdges_66 rfl ?_
        refine q_iload_n hC 2 dX4_countEdges_69 rfl rfl ?_
        refine q_if_ne hC 83 dX4_countEdges_70 rfl ?_ ?_
        · refine q_iincA hC (loc' := [(3, .int (x3 + 1)), (4, .int v6), (0, .ref x0), (1, .int x1), (2, .int x2)]) 4 1 dX4_countEdges_83 rfl rfl (Nat.le_of_ble_eq_true rfl) rfl ?_
          refine q_goto hC 14 dX4_countEdges_86 rfl ?_
          exact c_sub [2, 3, 4, 0] rfl (hJ 1 [.ref x0, .int x1, .int x2, .int (x3 + 1)])
        · refine q_aload_n hC 1 dX4_countEdges_73 rfl rfl ?_
          refine q_getR hC (by decide) (by decide) rfl w_117 dX4_countEdges_74 (fun r8 => ?_)
          refine q_iload hC 0 dX4_countEdges_77 rfl ?_
          refine q_iconst hC dX4_countEdges_79 rfl ?_
          refine q_cNV hC hnt (stk := []) (as := [.ref r8, .int v6, .int 1]) sX10_addTo nX10_addTo rfl w_520 w_416 w_27 w_415 (Nat.le_of_ble_eq_true rfl) dX4_countEdges_80 rfl ?_
          refine q_iincA hC (loc' := [(3, .int (x3 + 1)), (4, .int v6), (0, .ref x0), (1, .int x1), (2, .int x2)]) 4 1 dX4_countEdges_83 rfl rfl (Nat.le_of_ble_eq_true rfl) rfl ?_
          refine q_goto hC 14 dX4_countEdges_86 rfl ?_
          exact c_sub [2, 3, 4, 0] rfl (hJ 1 [.ref x0, .int x1, .int x2, .int (x3 + 1)])
      · refine q_iload_n hC 3 dX4_countEdges_44 rfl rfl ?_
        refine q_iconst hC dX4_countEdges_45 rfl ?_
        refine q_iadd hC dX4_countEdges_46 ?_
        refine q_goto hC 51 dX4_countEdges_47 rfl ?_
        refine q_cVI hC hnt (stk := [.int v3, .ref r1]) (as := [.int v4, .int (x3 + 1)]) sX4_markAt (ci := 4) (by decide) rfl nX4_markAt rfl w_515 w_517 w_518 w_159 w_516 (Nat.le_of_ble_eq_true rfl) dX4_countEdges_51 rfl (fun v9 => ?_)
        refine q_cVI hC hnt (stk := []) (as := [.int v3, .int v9]) sX0_between (ci := 0) (by decide) rfl nX0_between rfl w_519 w_406 w_407 w_149 w_405 (Nat.le_of_ble_eq_true rfl) dX4_countEdges_54 rfl (fun v10 => ?_)
        refine q_istoreA hC (loc' := [(4, .int v10), (0, .ref x0), (1, .int x1), (2, .int x2), (3, .int x3)]) dX4_countEdges_57 (Nat.le_of_ble_eq_true rfl) rfl ?_
        refine q_aload_n hC 1 dX4_countEdges_59 rfl rfl ?_
        refine q_getR hC (by decide) (by decide) rfl w_116 dX4_countEdges_60 (fun r11 => ?_)
        refine q_iload hC 0 dX4_countEdges_63 rfl ?_
        refine q_iconst hC dX4_countEdges_65 rfl ?_
        refine q_cNV hC hnt (stk := []) (as := [.ref r11, .int v10, .int 1]) sX10_addTo nX10_addTo rfl w_520 w_416 w_27 w_415 (Nat.le_of_ble_eq_true rfl) dX4_countEdges_66 rfl ?_
        refine q_iload_n hC 2 dX4_countEdges_69 rfl rfl ?_
        refine q_if_ne hC 83 dX4_countEdges_70 rfl ?_ ?_
        · refine q_iincA hC (loc' := [(3, .int (x3 + 1)), (4, .int v10), (0, .ref x0), (1, .int x1), (2, .int x2)]) 4 1 dX4_countEdges_83 rfl rfl (Nat.le_of_ble_eq_true rfl) rfl ?_
          refine q_goto hC 14 dX4_countEdges_86 rfl ?_
          exact c_sub [2, 3, 4, 0] rfl (hJ 1 [.ref x0, .int x1, .int x2, .int (x3 + 1)])
        · refine q_aload_n hC 1 dX4_countEdges_73 rfl rfl ?_
          refine q_getR hC (by decide) (by decide) rfl w_117 dX4_countEdges_74 (fun r12 => ?_)
          refine q_iload hC 0 dX4_countEdges_77 rfl ?_
          refine q_iconst hC dX4_countEdges_79 rfl ?_
          refine q_cNV hC hnt (stk := []) (as := [.ref r12, .int v10, .int 1]) sX10_addTo nX10_addTo rfl w_520 w_416 w_27 w_415 (Nat.le_of_ble_eq_true rfl) dX4_countEdges_80 rfl ?_
          refine q_iincA hC (loc' := [(3, .int (x3 + 1)), (4, .int v10), (0, .ref x0), (1, .int x1), (2, .int x2)]) 4 1 dX4_countEdges_83 rfl rfl (Nat.le_of_ble_eq_true rfl) rfl ?_
          refine q_goto hC 14 dX4_countEdges_86 rfl ?_
          exact c_sub [2, 3, 4, 0] rfl (hJ 1 [.ref x0, .int x1, .int x2, .int (x3 + 1)])
  · exact c_no
theorem sX4_countEdges : Snd yX4_countEdges (.code yX4_countEdges cX4_countEdges 5 none) rmX4_countEdges SX4_countEdges := by
  refine Snd.of lX4_countEdges (by decide +kernel) (fun _ => rfl) ?_
  intro Γ hC hnt hnm J hJ L a
  match L with
  | 0 => exact pX4_countEdges_0 hC hnt J hJ a
  | 1 => exact pX4_countEdges_1 hC hnt J hJ a
  | L + 2 => exact c_no
/-! SpiritWall$Loops.gather(I)V -/
theorem dX4_gather_0 : decode cX4_gather 0 = .ok (.aload_n 0, 1) := by decide +kernel
theorem dX4_gather_1 : decode cX4_gather 1 = .ok (.iconst 0, 1) := by decide +kernel
theorem dX4_gather_2 : decode cX4_gather 2 = .ok (.putfield 9, 3) := by decide +kernel
theorem dX4_gather_5 : decode cX4_gather 5 = .ok (.aload_n 0, 1) := by decide +kernel
theorem dX4_gather_6 : decode cX4_gather 6 = .ok (.iconst 0, 1) := by decide +kernel
theorem dX4_gather_7 : decode cX4_gather 7 = .ok (.putfield 15, 3) := by decide +kernel
theorem dX4_gather_10 : decode cX4_gather 10 = .ok (.aload_n 0, 1) := by decide +kernel
theorem dX4_gather_11 : decode cX4_gather 11 = .ok (.getfield 31, 3) := by decide +kernel
theorem dX4_gather_14 : decode cX4_gather 14 = .ok (.iconst 0, 1) := by decide +kernel
theorem dX4_gather_15 : decode cX4_gather 15 = .ok (.invokestatic 45, 3) := by decide +kernel
theorem dX4_gather_18 : decode cX4_gather 18 = .ok (.aload_n 0, 1) := by decide +kernel
theorem dX4_gather_19 : decode cX4_gather 19 = .ok (.getfield 34, 3) := by decide +kernel
theorem dX4_gather_22 : decode cX4_gather 22 = .ok (.iconst 0, 1) := by decide +kernel
theorem dX4_gather_23 : decode cX4_gather 23 = .ok (.invokestatic 45, 3) := by decide +kernel
theorem dX4_gather_26 : decode cX4_gather 26 = .ok (.iconst 0, 1) := by decide +kernel
theorem dX4_gather_27 : decode cX4_gather 27 = .ok (.istore_n 2, 1) := by decide +kernel
theorem dX4_gather_28 : decode cX4_gather 28 = .ok (.iload_n 2, 1) := by decide +kernel
theorem dX4_gather_29 : decode cX4_gather 29 = .ok (.aload_n 0, 1) := by decide +kernel
theorem dX4_gather_30 : decode cX4_gather 30 = .ok (.getfield 37, 3) := by decide +kernel
theorem dX4_gather_33 : decode cX4_gather 33 = .ok (.getfield 49, 3) := by decide +kernel
theorem dX4_gather_36 : decode cX4_gather 36 = .ok (.if_icmp .ge 71, 3) := by decide +kernel
theorem dX4_gather_39 : decode cX4_gather 39 = .ok (.aload_n 0, 1) := by decide +kernel
theorem dX4_gather_40 : decode cX4_gather 40 = .ok (.getfield 41, 3) := by decide +kernel
theorem dX4_gather_43 : decode cX4_gather 43 = .ok (.getfield 52, 3) := by decide +kernel
theorem dX4_gather_46 : decode cX4_gather 46 = .ok (.iload_n 2, 1) := by decide +kernel
theorem dX4_gather_47 : decode cX4_gather 47 = .ok (.invokestatic 57, 3) := by decide +kernel
theorem dX4_gather_50 : decode cX4_gather 50 = .ok (.iconst 1, 1) := by decide +kernel
theorem dX4_gather_51 : decode cX4_gather 51 = .ok (.if_icmp .ne 6, 3) := by decide +kernel
theorem dX4_gather_54 : decode cX4_gather 54 = .ok (.goto 47, 3) := by decide +kernel
theorem dX4_gather_57 : decode cX4_gather 57 = .ok (.aload_n 0, 1) := by decide +kernel
theorem dX4_gather_58 : decode cX4_gather 58 = .ok (.iload_n 2, 1) := by decide +kernel
theorem dX4_gather_59 : decode cX4_gather 59 = .ok (.invokevirtual 61, 3) := by decide +kernel
theorem dX4_gather_62 : decode cX4_gather 62 = .ok (.aload_n 0, 1) := by decide +kernel
theorem dX4_gather_63 : decode cX4_gather 63 = .ok (.aload_n 0, 1) := by decide +kernel
theorem dX4_gather_64 : decode cX4_gather 64 = .ok (.getfield 9, 3) := by decide +kernel
theorem dX4_gather_67 : decode cX4_gather 67 = .ok (.iload_n 1, 1) := by decide +kernel
theorem dX4_gather_68 : decode cX4_gather 68 = .ok (.invokevirtual 65, 3) := by decide +kernel
theorem dX4_gather_71 : decode cX4_gather 71 = .ok (.istore_n 3, 1) := by decide +kernel
theorem dX4_gather_72 : decode cX4_gather 72 = .ok (.aload_n 0, 1) := by decide +kernel
theorem dX4_gather_73 : decode cX4_gather 73 = .ok (.iload_n 3, 1) := by decide +kernel
theorem dX4_gather_74 : decode cX4_gather 74 = .ok (.invokevirtual 69, 3) := by decide +kernel
theorem dX4_gather_77 : decode cX4_gather 77 = .ok (.iload_n 3, 1) := by decide +kernel
theorem dX4_gather_78 : decode cX4_gather 78 = .ok (.ifCond .eq 13, 3) := by decide +kernel
theorem dX4_gather_81 : decode cX4_gather 81 = .ok (.aload_n 0, 1) := by decide +kernel
theorem dX4_gather_82 : decode cX4_gather 82 = .ok (.dup, 1) := by decide +kernel
theorem dX4_gather_83 : decode cX4_gather 83 = .ok (.getfield 15, 3) := by decide +kernel
theorem dX4_gather_86 : decode cX4_gather 86 = .ok (.iconst 1, 1) := by decide +kernel
theorem dX4_gather_87 : decode cX4_gather 87 = .ok (.iadd, 1) := by decide +kernel
theorem dX4_gather_88 : decode cX4_gather 88 = .ok (.putfield 15, 3) := by decide +kernel
theorem dX4_gather_91 : decode cX4_gather 91 = .ok (.aload_n 0, 1) := by decide +kernel
theorem dX4_gather_92 : decode cX4_gather 92 = .ok (.dup, 1) := by decide +kernel
theorem dX4_gather_93 : decode cX4_gather 93 = .ok (.getfield 9, 3) := by decide +kernel
theorem dX4_gather_96 : decode cX4_gather 96 = .ok (.iconst 1, 1) := by decide +kernel
theorem dX4_gather_97 : decode cX4_gather 97 = .ok (.iadd, 1) := by decide +kernel
theorem dX4_gather_98 : decode cX4_gather 98 = .ok (.putfield 9, 3) := by decide +kernel
theorem dX4_gather_101 : decode cX4_gather 101 = .ok (.iinc 2 1, 3) := by decide +kernel
theorem dX4_gather_104 : decode cX4_gather 104 = .ok (.goto (-76), 3) := by decide +kernel
theorem dX4_gather_107 : decode cX4_gather 107 = .ok (.return_, 1) := by decide +kernel
def rmX4_gather : Room := rmk 9 0 0 220
theorem nX4_gather : nameOk yX4_gather 1 = true := by decide +kernel
def bX4_gather_0 (J : JT) : List Value → Sem
  | [.ref x0, .int x1] =>
    pI 4 2 x0 0 <|
    pI 4 3 x0 0 <|
    gR 4 8 x0 fun r1 =>
    cV SX10_fill [.ref r1, .int 0] <|
    gR 4 9 x0 fun r2 =>
    cV SX10_fill [.ref r2, .int 0] <|
    J 1 [.ref x0, .int x1, .int 0]
  | _ => no
def bX4_gather_1 (J : JT) : List Value → Sem
  | [.ref x0, .int x1, .int x2] =>
    gR 4 0 x0 fun r1 =>
    gI 0 3 r1 fun v2 =>
    br (v2 ≤ x2)
    (rV)
    (gR 4 1 x0 fun r3 =>
    gR 1 3 r3 fun r4 =>
    cI SX10_cell [.ref r4, .int x2] fun v5 =>
    br (v5 = (1 : Int32))
    (J 1 [.ref x0, .int x1, .int (x2 + 1)])
    (ob 4 x0 (cV SX4_trace [.ref x0, .int x2] <|
    gI 4 2 x0 fun v6 =>
    ob 4 x0 (cI SX4_closes [.ref x0, .int v6, .int x1] fun v7 =>
    ob 4 x0 (cV SX4_countEdges [.ref x0, .int v7] <|
    br (v7 = 0)
    (gI 4 2 x0 fun v8 =>
    pI 4 2 x0 (v8 + 1) <|
    J 1 [.ref x0, .int x1, .int (x2 + 1)])
    (gI 4 3 x0 fun v9 =>
    pI 4 3 x0 (v9 + 1) <|
    gI 4 2 x0 fun v10 =>
    pI 4 2 x0 (v10 + 1) <|
    J 1 [.ref x0, .int x1, .int (x2 + 1)]))))))
  | _ => no
def bX4_gather (J : JT) : JT := fun L a => match L with
  | 0 => bX4_gather_0 J a
  | 1 => bX4_gather_1 J a
  | _ => no
def SX4_gather : ST := mk 4 bX4_gather
def lX4_gather (L : Nat) (a : List Value) : Nat × Nat × Nat × List (Nat × Value) × List Value := match L with
  | 0 => (0, 0, 0, lv_args 0 a, [])
  | 1 => (0, 0, 28, List.zip [0, 1, 2] a, [])
  | _ => (0, 0, 0, [], [])
theorem pX4_gather_0 {Γ : CT} (hC : Ctx Γ "SpiritWall$Loops" cX4_gather 4 none rmX4_gather) (hnt : NT Γ) (J : JT) (hJ : ∀ L a, Cor Γ 4 (lX4_gather L a).1 (lX4_gather L a).2.1 (lX4_gather L a).2.2.1 (lX4_gather L a).2.2.2.1 (lX4_gather L a).2.2.2.2 (J L a)) (a : List Value) : Cor Γ 4 0 0 0 (lv_args 0 a) [] (bX4_gather_0 J a) := by
  unfold bX4_gather_0
  split
  · rename_i x0 x1
    refine c_sub [0, 1] rfl (loc' := [(0, .ref x0), (1, .int x1)]) ?_
    refine q_aload_n hC 0 dX4_gather_0 rfl rfl ?_
    refine q_iconst hC dX4_gather_1 rfl ?_
    refine q_putI hC (by decide) (by decide) rfl rfl w_110 dX4_gather_2 ?_
    refine q_aload_n hC 0 dX4_gather_5 rfl rfl ?_
    refine q_iconst hC dX4_gather_6 rfl ?_
    refine q_putI hC (by decide) (by decide) rfl rfl w_111 dX4_gather_7 ?_
    refine q_aload_n hC 0 dX4_gather_10 rfl rfl ?_
    refine q_getR hC (by decide) (by decide) rfl w_116 dX4_gather_11 (fun r1 => ?_)
    refine q_iconst hC dX4_gather_14 rfl ?_
    refine q_cNV hC hnt (stk := []) (as := [.ref r1, .int 0]) sX10_fill nX10_fill rfl w_521 w_199 w_27 w_198 (Nat.le_of_ble_eq_true rfl) dX4_gather_15 rfl ?_
    refine q_aload_n hC 0 dX4_gather_18 rfl rfl ?_
    refine q_getR hC (by decide) (by decide) rfl w_117 dX4_gather_19 (fun r2 => ?_)
    refine q_iconst hC dX4_gather_22 rfl ?_
    refine q_cNV hC hnt (stk := []) (as := [.ref r2, .int 0]) sX10_fill nX10_fill rfl w_521 w_199 w_27 w_198 (Nat.le_of_ble_eq_true rfl) dX4_gather_23 rfl ?_
    refine q_iconst hC dX4_gather_26 rfl ?_
    refine q_istore_nA hC (loc' := [(2, .int 0), (0, .ref x0), (1, .int x1)]) dX4_gather_27 rfl (Nat.le_of_ble_eq_true rfl) rfl ?_
    exact c_sub [1, 2, 0] rfl (hJ 1 [.ref x0, .int x1, .int 0])
  · exact c_no
theorem pX4_gather_1 {Γ : CT} (hC : Ctx Γ "SpiritWall$Loops" cX4_gather 4 none rmX4_gather) (hnt : NT Γ) (J : JT) (hJ : ∀ L a, Cor Γ 4 (lX4_gather L a).1 (lX4_gather L a).2.1 (lX4_gather L a).2.2.1 (lX4_gather L a).2.2.2.1 (lX4_gather L a).2.2.2.2 (J L a)) (a : List Value) : Cor Γ 4 0 0 28 (List.zip [0, 1, 2] a) [] (bX4_gather_1 J a) := by
  unfold bX4_gather_1
  split
  · rename_i x0 x1 x2
    refine c_sub [0, 1, 2] rfl (loc' := [(0, .ref x0), (1, .int x1), (2, .int x2)]) ?_
    refine q_iload_n hC 2 dX4_gather_28 rfl rfl ?_
    refine q_aload_n hC 0 dX4_gather_29 rfl rfl ?_
    refine q_getR hC (by decide) (by decide) rfl w_118 dX4_gather_30 (fun r1 => ?_)
    refine q_getI hC (by decide) (by decide) rfl w_522 dX4_gather_33 (fun v2 => ?_)
    refine q_ic_ge hC 107 dX4_gather_36 rfl ?_ ?_
    · exact q_vret hC dX4_gather_107 (Nat.le_of_ble_eq_true rfl) (Nat.le_of_ble_eq_true rfl)
    · refine q_aload_n hC 0 dX4_gather_39 rfl rfl ?_
      refine q_getR hC (by decide) (by decide) rfl w_119 dX4_gather_40 (fun r3 => ?_)
      refine q_getR hC (by decide) (by decide) rfl w_523 dX4_gather_43 (fun r4 => ?_)
      refine q_iload_n hC 2 dX4_gather_46 rfl rfl ?_
      refine q_cNI hC hnt (stk := []) (as := [.ref r4, .int x2]) sX10_cell nX10_cell rfl w_501 w_202 w_27 w_201 (Nat.le_of_ble_eq_true rfl) dX4_gather_47 rfl (fun v5 => ?_)
      refine q_iconst hC dX4_gather_50 rfl ?_
      refine q_ic_ne hC 57 dX4_gather_51 rfl ?_ ?_
      · refine q_aload_n hC 0 dX4_gather_57 rfl rfl ?_
        refine q_iload_n hC 2 dX4_gather_58 rfl rfl ?_
        refine q_cVV hC hnt (stk := []) (as := [.int x2]) sX4_trace (ci := 4) (by decide) rfl nX4_trace rfl w_524 w_526 w_527 w_159 w_525 (Nat.le_of_ble_eq_true rfl) dX4_gather_59 rfl ?_
        refine q_aload_n hC 0 dX4_gather_62 rfl rfl ?_
        refine q_aload_n hC 0 dX4_gather_63 rfl rfl ?_
        refine q_getI hC (by decide) (by decide) rfl w_110 dX4_gather_64 (fun v6 => ?_)
        refine q_iload_n hC 1 dX4_gather_67 rfl rfl ?_
        refine q_cVI hC hnt (stk := []) (as := [.int v6, .int x1]) sX4_closes (ci := 4) (by decide) rfl nX4_closes rfl w_528 w_530 w_531 w_159 w_529 (Nat.le_of_ble_eq_true rfl) dX4_gather_68 rfl (fun v7 => ?_)
        refine q_istore_nA hC (loc' := [(3, .int v7), (0, .ref x0), (1, .int x1), (2, .int x2)]) dX4_gather_71 rfl (Nat.le_of_ble_eq_true rfl) rfl ?_
        refine q_aload_n hC 1 dX4_gather_72 rfl rfl ?_
        refine q_iload_n hC 0 dX4_gather_73 rfl rfl ?_
        refine q_cVV hC hnt (stk := []) (as := [.int v7]) sX4_countEdges (ci := 4) (by decide) rfl nX4_countEdges rfl w_532 w_534 w_535 w_159 w_533 (Nat.le_of_ble_eq_true rfl) dX4_gather_74 rfl ?_
        refine q_iload_n hC 0 dX4_gather_77 rfl rfl ?_
        refine q_if_eq hC 91 dX4_gather_78 rfl ?_ ?_
        · refine q_aload_n hC 1 dX4_gather_91 rfl rfl ?_
          refine q_dup hC dX4_gather_92 ?_
          refine q_getI hC (by decide) (by decide) rfl w_110 dX4_gather_93 (fun v8 => ?_)
          refine q_iconst hC dX4_gather_96 rfl ?_
          refine q_iadd hC dX4_gather_97 ?_
          refine q_putI hC (by decide) (by decide) rfl rfl w_110 dX4_gather_98 ?_
          refine q_iincA hC (loc' := [(2, .int (x2 + 1)), (3, .int v7), (0, .ref x0), (1, .int x1)]) 3 1 dX4_gather_101 rfl rfl (Nat.le_of_ble_eq_true rfl) rfl ?_
          refine q_goto hC 28 dX4_gather_104 rfl ?_
          exact c_sub [2, 3, 0] rfl (hJ 1 [.ref x0, .int x1, .int (x2 + 1)])
        · refine q_aload_n hC 1 dX4_gather_81 rfl rfl ?_
          refine q_dup hC dX4_gather_82 ?_
          refine q_getI hC (by decide) (by decide) rfl w_111 dX4_gather_83 (fun v9 => ?_)
          refine q_iconst hC dX4_gather_86 rfl ?_
          refine q_iadd hC dX4_gather_87 ?_
          refine q_putI hC (by decide) (by decide) rfl rfl w_111 dX4_gather_88 ?_
          refine q_aload_n hC 1 dX4_gather_91 rfl rfl ?_
          refine q_dup hC dX4_gather_92 ?_
          refine q_getI hC (by decide) (by decide) rfl w_110 dX4_gather_93 (fun v10 => ?_)
          refine q_iconst hC dX4_gather_96 rfl ?_
          refine q_iadd hC dX4_gather_97 ?_
          refine q_putI hC (by decide) (by decide) rfl rfl w_110 dX4_gather_98 ?_
          refine q_iincA hC (loc' := [(2, .int (x2 + 1)), (3, .int v7), (0, .ref x0), (1, .int x1)]) 3 1 dX4_gather_101 rfl rfl (Nat.le_of_ble_eq_true rfl) rfl ?_
          refine q_goto hC 28 dX4_gather_104 rfl ?_
          exact c_sub [2, 3, 0] rfl (hJ 1 [.ref x0, .int x1, .int (x2 + 1)])
      · refine q_goto hC 101 dX4_gather_54 rfl ?_
        refine q_iincA hC (loc' := [(2, .int (x2 + 1)), (0, .ref x0), (1, .int x1)]) 2 1 dX4_gather_101 rfl rfl (Nat.le_of_ble_eq_true rfl) rfl ?_
        refine q_goto hC 28 dX4_gather_104 rfl ?_
        exact c_sub [1, 2, 0] rfl (hJ 1 [.ref x0, .int x1, .int (x2 + 1)])
  · exact c_no
theorem sX4_gather : Snd yX4_gather (.code yX4_gather cX4_gather 4 none) rmX4_gather SX4_gather := by
  refine Snd.of lX4_gather (by decide +kernel) (fun _ => rfl) ?_
  intro Γ hC hnt hnm J hJ L a
  match L with
  | 0 => exact pX4_gather_0 hC hnt J hJ a
  | 1 => exact pX4_gather_1 hC hnt J hJ a
  | L + 2 => exact c_no
/-! SpiritWall.survey(LSpiritWall$State;)V -/
theorem dX10_survey_0 : decode cX10_survey 0 = .ok (.aload_n 0, 1) := by decide +kernel
theorem dX10_survey_1 : decode cX10_survey 1 = .ok (.getfield 62, 3) := by decide +kernel
theorem dX10_survey_4 : decode cX10_survey 4 = .ok (.aload_n 1, 1) := by decide +kernel
theorem dX10_survey_5 : decode cX10_survey 5 = .ok (.invokevirtual 164, 3) := by decide +kernel
theorem dX10_survey_8 : decode cX10_survey 8 = .ok (.aload_n 0, 1) := by decide +kernel
theorem dX10_survey_9 : decode cX10_survey 9 = .ok (.getfield 71, 3) := by decide +kernel
theorem dX10_survey_12 : decode cX10_survey 12 = .ok (.invokevirtual 431, 3) := by decide +kernel
theorem dX10_survey_15 : decode cX10_survey 15 = .ok (.aload_n 0, 1) := by decide +kernel
theorem dX10_survey_16 : decode cX10_survey 16 = .ok (.getfield 80, 3) := by decide +kernel
theorem dX10_survey_19 : decode cX10_survey 19 = .ok (.aload_n 1, 1) := by decide +kernel
theorem dX10_survey_20 : decode cX10_survey 20 = .ok (.iconst 3, 1) := by decide +kernel
theorem dX10_survey_21 : decode cX10_survey 21 = .ok (.invokevirtual 160, 3) := by decide +kernel
theorem dX10_survey_24 : decode cX10_survey 24 = .ok (.invokevirtual 434, 3) := by decide +kernel
theorem dX10_survey_27 : decode cX10_survey 27 = .ok (.return_, 1) := by decide +kernel
def rmX10_survey : Room := rmk 12 0 0 290
theorem nX10_survey : nameOk yX10_survey 1 = true := by decide +kernel
def bX10_survey_0 (J : JT) : List Value → Sem
  | [.ref x0, .ref x1] =>
    gR 10 8 x0 fun r1 =>
    ob 0 r1 (cV SX0_measure [.ref r1, .ref x1] <|
    gR 10 9 x0 fun r2 =>
    ob 1 r2 (cV SX1_grow [.ref r2] <|
    gR 10 10 x0 fun r3 =>
    ob 6 x1 (cI SX6_settingOf [.ref x1, .int 3] fun v4 =>
    ob 4 r3 (cV SX4_gather [.ref r3, .int v4] <|
    rV))))
  | _ => no
def bX10_survey (J : JT) : JT := fun L a => match L with
  | 0 => bX10_survey_0 J a
  | _ => no
def SX10_survey : ST := mk 2 bX10_survey
def lX10_survey (L : Nat) (a : List Value) : Nat × Nat × Nat × List (Nat × Value) × List Value := match L with
  | 0 => (0, 0, 0, lv_args 0 a, [])
  | _ => (0, 0, 0, [], [])
theorem pX10_survey_0 {Γ : CT} (hC : Ctx Γ "SpiritWall" cX10_survey 2 none rmX10_survey) (hnt : NT Γ) (J : JT) (hJ : ∀ L a, Cor Γ 2 (lX10_survey L a).1 (lX10_survey L a).2.1 (lX10_survey L a).2.2.1 (lX10_survey L a).2.2.2.1 (lX10_survey L a).2.2.2.2 (J L a)) (a : List Value) : Cor Γ 2 0 0 0 (lv_args 0 a) [] (bX10_survey_0 J a) := by
  unfold bX10_survey_0
  split
  · rename_i x0 x1
    refine c_sub [0, 1] rfl (loc' := [(0, .ref x0), (1, .ref x1)]) ?_
    refine q_aload_n hC 0 dX10_survey_0 rfl rfl ?_
    refine q_getR hC (by decide) (by decide) rfl w_150 dX10_survey_1 (fun r1 => ?_)
    refine q_aload_n hC 1 dX10_survey_4 rfl rfl ?_
    refine q_cVV hC hnt (stk := []) (as := [.ref x1]) sX0_measure (ci := 0) (by decide) rfl nX0_measure rfl w_536 w_538 w_539 w_149 w_537 (Nat.le_of_ble_eq_true rfl) dX10_survey_5 rfl ?_
    refine q_aload_n hC 0 dX10_survey_8 rfl rfl ?_
    refine q_getR hC (by decide) (by decide) rfl w_155 dX10_survey_9 (fun r2 => ?_)
    refine q_cVV hC hnt (stk := []) (as := []) sX1_grow (ci := 1) (by decide) rfl nX1_grow rfl w_540 w_542 w_543 w_154 w_541 (Nat.le_of_ble_eq_true rfl) dX10_survey_12 rfl ?_
    refine q_aload_n hC 0 dX10_survey_15 rfl rfl ?_
    refine q_getR hC (by decide) (by decide) rfl w_160 dX10_survey_16 (fun r3 => ?_)
    refine q_aload_n hC 1 dX10_survey_19 rfl rfl ?_
    refine q_iconst hC dX10_survey_20 rfl ?_
    refine q_cVI hC hnt (stk := [.ref r3]) (as := [.int 3]) sX6_settingOf (ci := 6) (by decide) rfl nX6_settingOf rfl w_544 w_355 w_356 w_35 w_354 (Nat.le_of_ble_eq_true rfl) dX10_survey_21 rfl (fun v4 => ?_)
    refine q_cVV hC hnt (stk := []) (as := [.int v4]) sX4_gather (ci := 4) (by decide) rfl nX4_gather rfl w_545 w_547 w_548 w_159 w_546 (Nat.le_of_ble_eq_true rfl) dX10_survey_24 rfl ?_
    exact q_vret hC dX10_survey_27 (Nat.le_of_ble_eq_true rfl) (Nat.le_of_ble_eq_true rfl)
  · exact c_no
theorem sX10_survey : Snd yX10_survey (.code yX10_survey cX10_survey 2 none) rmX10_survey SX10_survey := by
  refine Snd.of lX10_survey (by decide +kernel) (fun _ => rfl) ?_
  intro Γ hC hnt hnm J hJ L a
  match L with
  | 0 => exact pX10_survey_0 hC hnt J hJ a
  | L + 1 => exact c_no
/-! SpiritWall$State.ones([II)I -/
theorem dX6_ones_0 : decode cX6_ones 0 = .ok (.iconst 0, 1) := by decide +kernel
theorem dX6_ones_1 : decode cX6_ones 1 = .ok (.istore_n 2, 1) := by decide +kernel
theorem dX6_ones_2 : decode cX6_ones 2 = .ok (.iconst 0, 1) := by decide +kernel
theorem dX6_ones_3 : decode cX6_ones 3 = .ok (.istore_n 3, 1) := by decide +kernel
theorem dX6_ones_4 : decode cX6_ones 4 = .ok (.iload_n 3, 1) := by decide +kernel
theorem dX6_ones_5 : decode cX6_ones 5 = .ok (.iload_n 1, 1) := by decide +kernel
theorem dX6_ones_6 : decode cX6_ones 6 = .ok (.if_icmp .ge 21, 3) := by decide +kernel
theorem dX6_ones_9 : decode cX6_ones 9 = .ok (.aload_n 0, 1) := by decide +kernel
theorem dX6_ones_10 : decode cX6_ones 10 = .ok (.iload_n 3, 1) := by decide +kernel
theorem dX6_ones_11 : decode cX6_ones 11 = .ok (.invokestatic 64, 3) := by decide +kernel
theorem dX6_ones_14 : decode cX6_ones 14 = .ok (.iconst 1, 1) := by decide +kernel
theorem dX6_ones_15 : decode cX6_ones 15 = .ok (.if_icmp .ne 6, 3) := by decide +kernel
theorem dX6_ones_18 : decode cX6_ones 18 = .ok (.iinc 2 1, 3) := by decide +kernel
theorem dX6_ones_21 : decode cX6_ones 21 = .ok (.iinc 3 1, 3) := by decide +kernel
theorem dX6_ones_24 : decode cX6_ones 24 = .ok (.goto (-20), 3) := by decide +kernel
theorem dX6_ones_27 : decode cX6_ones 27 = .ok (.iload_n 2, 1) := by decide +kernel
theorem dX6_ones_28 : decode cX6_ones 28 = .ok (.ireturn, 1) := by decide +kernel
def rmX6_ones : Room := rmk 7 0 0 171
theorem nX6_ones : nameOk yX6_ones 2 = true := by decide +kernel
def bX6_ones_0 (J : JT) : List Value → Sem
  | [.ref x0, .int x1] =>
    J 1 [.ref x0, .int x1, .int 0, .int 0]
  | _ => no
def bX6_ones_1 (J : JT) : List Value → Sem
  | [.ref x0, .int x1, .int x2, .int x3] =>
    br (x1 ≤ x3)
    (rI x2)
    (cI SX10_cell [.ref x0, .int x3] fun v1 =>
    br (v1 = (1 : Int32))
    (J 1 [.ref x0, .int x1, .int (x2 + 1), .int (x3 + 1)])
    (J 1 [.ref x0, .int x1, .int x2, .int (x3 + 1)]))
  | _ => no
def bX6_ones (J : JT) : JT := fun L a => match L with
  | 0 => bX6_ones_0 J a
  | 1 => bX6_ones_1 J a
  | _ => no
def SX6_ones : ST := mk 4 bX6_ones
def lX6_ones (L : Nat) (a : List Value) : Nat × Nat × Nat × List (Nat × Value) × List Value := match L with
  | 0 => (0, 0, 0, lv_args 0 a, [])
  | 1 => (0, 0, 4, List.zip [0, 1, 2, 3] a, [])
  | _ => (0, 0, 0, [], [])
theorem pX6_ones_0 {Γ : CT} (hC : Ctx Γ "SpiritWall$State" cX6_ones 4 (some .int) rmX6_ones) (hnt : NT Γ) (J : JT) (hJ : ∀ L a, Cor Γ 4 (lX6_ones L a).1 (lX6_ones L a).2.1 (lX6_ones L a).2.2.1 (lX6_ones L a).2.2.2.1 (lX6_ones L a).2.2.2.2 (J L a)) (a : List Value) : Cor Γ 4 0 0 0 (lv_args 0 a) [] (bX6_ones_0 J a) := by
  unfold bX6_ones_0
  split
  · rename_i x0 x1
    refine c_sub [0, 1] rfl (loc' := [(0, .ref x0), (1, .int x1)]) ?_
    refine q_iconst hC dX6_ones_0 rfl ?_
    refine q_istore_nA hC (loc' := [(2, .int 0), (0, .ref x0), (1, .int x1)]) dX6_ones_1 rfl (Nat.le_of_ble_eq_true rfl) rfl ?_
    refine q_iconst hC dX6_ones_2 rfl ?_
    refine q_istore_nA hC (loc' := [(3, .int 0), (2, .int 0), (0, .ref x0), (1, .int x1)]) dX6_ones_3 rfl (Nat.le_of_ble_eq_true rfl) rfl ?_
    exact c_sub [2, 3, 1, 0] rfl (hJ 1 [.ref x0, .int x1, .int 0, .int 0])
  · exact c_no
theorem pX6_ones_1 {Γ : CT} (hC : Ctx Γ "SpiritWall$State" cX6_ones 4 (some .int) rmX6_ones) (hnt : NT Γ) (J : JT) (hJ : ∀ L a, Cor Γ 4 (lX6_ones L a).1 (lX6_ones L a).2.1 (lX6_ones L a).2.2.1 (lX6_ones L a).2.2.2.1 (lX6_ones L a).2.2.2.2 (J L a)) (a : List Value) : Cor Γ 4 0 0 4 (List.zip [0, 1, 2, 3] a) [] (bX6_ones_1 J a) := by
  unfold bX6_ones_1
  split
  · rename_i x0 x1 x2 x3
    refine c_sub [0, 1, 2, 3] rfl (loc' := [(0, .ref x0), (1, .int x1), (2, .int x2), (3, .int x3)]) ?_
    refine q_iload_n hC 3 dX6_ones_4 rfl rfl ?_
    refine q_iload_n hC 1 dX6_ones_5 rfl rfl ?_
    refine q_ic_ge hC 27 dX6_ones_6 rfl ?_ ?_
    · refine q_iload_n hC 2 dX6_ones_27 rfl rfl ?_
      exact q_iret hC dX6_ones_28 (Nat.le_of_ble_eq_true rfl) (Nat.le_of_ble_eq_true rfl)
    · refine q_aload_n hC 0 dX6_ones_9 rfl rfl ?_
      refine q_iload_n hC 3 dX6_ones_10 rfl rfl ?_
      refine q_cNI hC hnt (stk := []) (as := [.ref x0, .int x3]) sX10_cell nX10_cell rfl w_347 w_202 w_27 w_201 (Nat.le_of_ble_eq_true rfl) dX6_ones_11 rfl (fun v1 => ?_)
      refine q_iconst hC dX6_ones_14 rfl ?_
      refine q_ic_ne hC 21 dX6_ones_15 rfl ?_ ?_
      · refine q_iincA hC (loc' := [(3, .int (x3 + 1)), (0, .ref x0), (1, .int x1), (2, .int x2)]) 3 1 dX6_ones_21 rfl rfl (Nat.le_of_ble_eq_true rfl) rfl ?_
        refine q_goto hC 4 dX6_ones_24 rfl ?_
        exact c_sub [1, 2, 3, 0] rfl (hJ 1 [.ref x0, .int x1, .int x2, .int (x3 + 1)])
      · refine q_iincA hC (loc' := [(2, .int (x2 + 1)), (0, .ref x0), (1, .int x1), (3, .int x3)]) 2 1 dX6_ones_18 rfl rfl (Nat.le_of_ble_eq_true rfl) rfl ?_
        refine q_iincA hC (loc' := [(3, .int (x3 + 1)), (2, .int (x2 + 1)), (0, .ref x0), (1, .int x1)]) 3 1 dX6_ones_21 rfl rfl (Nat.le_of_ble_eq_true rfl) rfl ?_
        refine q_goto hC 4 dX6_ones_24 rfl ?_
        exact c_sub [2, 3, 1, 0] rfl (hJ 1 [.ref x0, .int x1, .int (x2 + 1), .int (x3 + 1)])
  · exact c_no
theorem sX6_ones : Snd yX6_ones (.code yX6_ones cX6_ones 4 (some .int)) rmX6_ones SX6_ones := by
  refine Snd.of lX6_ones (by decide +kernel) (fun _ => rfl) ?_
  intro Γ hC hnt hnm J hJ L a
  match L with
  | 0 => exact pX6_ones_0 hC hnt J hJ a
  | 1 => exact pX6_ones_1 hC hnt J hJ a
  | L + 2 => exact c_no
/-! SpiritWall$State.benches()I -/
theorem dX6_benches_0 : decode cX6_benches 0 = .ok (.aload_n 0, 1) := by decide +kernel
theorem dX6_benches_1 : decode cX6_benches 1 = .ok (.getfield 23, 3) := by decide +kernel
theorem dX6_benches_4 : decode cX6_benches 4 = .ok (.bipush 12, 2) := by decide +kernel
theorem dX6_benches_6 : decode cX6_benches 6 = .ok (.invokestatic 81, 3) := by decide +kernel
theorem dX6_benches_9 : decode cX6_benches 9 = .ok (.ireturn, 1) := by decide +kernel
def rmX6_benches : Room := rmk 8 0 0 194
theorem nX6_benches : nameOk yX6_benches 0 = true := by decide +kernel
def bX6_benches_0 (J : JT) : List Value → Sem
  | [.ref x0] =>
    gR 6 3 x0 fun r1 =>
    cI SX6_ones [.ref r1, .int 12] fun v2 =>
    rI v2
  | _ => no
def bX6_benches (J : JT) : JT := fun L a => match L with
  | 0 => bX6_benches_0 J a
  | _ => no
def SX6_benches : ST := mk 1 bX6_benches
def lX6_benches (L : Nat) (a : List Value) : Nat × Nat × Nat × List (Nat × Value) × List Value := match L with
  | 0 => (0, 0, 0, lv_args 0 a, [])
  | _ => (0, 0, 0, [], [])
theorem pX6_benches_0 {Γ : CT} (hC : Ctx Γ "SpiritWall$State" cX6_benches 1 (some .int) rmX6_benches) (hnt : NT Γ) (J : JT) (hJ : ∀ L a, Cor Γ 1 (lX6_benches L a).1 (lX6_benches L a).2.1 (lX6_benches L a).2.2.1 (lX6_benches L a).2.2.2.1 (lX6_benches L a).2.2.2.2 (J L a)) (a : List Value) : Cor Γ 1 0 0 0 (lv_args 0 a) [] (bX6_benches_0 J a) := by
  unfold bX6_benches_0
  split
  · rename_i x0
    refine c_sub [0] rfl (loc' := [(0, .ref x0)]) ?_
    refine q_aload_n hC 0 dX6_benches_0 rfl rfl ?_
    refine q_getR hC (by decide) (by decide) rfl w_13 dX6_benches_1 (fun r1 => ?_)
    refine q_bipush hC (v := 12) dX6_benches_4 rfl ?_
    refine q_cSI hC hnt (stk := []) (as := [.ref r1, .int 12]) sX6_ones nX6_ones rfl w_549 w_551 w_35 w_550 (Nat.le_of_ble_eq_true rfl) dX6_benches_6 rfl (fun v2 => ?_)
    exact q_iret hC dX6_benches_9 (Nat.le_of_ble_eq_true rfl) (Nat.le_of_ble_eq_true rfl)
  · exact c_no
theorem sX6_benches : Snd yX6_benches (.code yX6_benches cX6_benches 1 (some .int)) rmX6_benches SX6_benches := by
  refine Snd.of lX6_benches (by decide +kernel) (fun _ => rfl) ?_
  intro Γ hC hnt hnm J hJ L a
  match L with
  | 0 => exact pX6_benches_0 hC hnt J hJ a
  | L + 1 => exact c_no
/-! SpiritWall$State.struckSights()I -/
theorem dX6_struckSights_0 : decode cX6_struckSights 0 = .ok (.aload_n 0, 1) := by decide +kernel
theorem dX6_struckSights_1 : decode cX6_struckSights 1 = .ok (.getfield 50, 3) := by decide +kernel
theorem dX6_struckSights_4 : decode cX6_struckSights 4 = .ok (.aload_n 0, 1) := by decide +kernel
theorem dX6_struckSights_5 : decode cX6_struckSights 5 = .ok (.getfield 32, 3) := by decide +kernel
theorem dX6_struckSights_8 : decode cX6_struckSights 8 = .ok (.invokestatic 81, 3) := by decide +kernel
theorem dX6_struckSights_11 : decode cX6_struckSights 11 = .ok (.ireturn, 1) := by decide +kernel
def rmX6_struckSights : Room := rmk 8 0 0 194
theorem nX6_struckSights : nameOk yX6_struckSights 0 = true := by decide +kernel
def bX6_struckSights_0 (J : JT) : List Value → Sem
  | [.ref x0] =>
    gR 6 12 x0 fun r1 =>
    gI 6 6 x0 fun v2 =>
    cI SX6_ones [.ref r1, .int v2] fun v3 =>
    rI v3
  | _ => no
def bX6_struckSights (J : JT) : JT := fun L a => match L with
  | 0 => bX6_struckSights_0 J a
  | _ => no
def SX6_struckSights : ST := mk 1 bX6_struckSights
def lX6_struckSights (L : Nat) (a : List Value) : Nat × Nat × Nat × List (Nat × Value) × List Value := match L with
  | 0 => (0, 0, 0, lv_args 0 a, [])
  | _ => (0, 0, 0, [], [])
theorem pX6_struckSights_0 {Γ : CT} (hC : Ctx Γ "SpiritWall$State" cX6_struckSights 1 (some .int) rmX6_struckSights) (hnt : NT Γ) (J : JT) (hJ : ∀ L a, Cor Γ 1 (lX6_struckSights L a).1 (lX6_struckSights L a).2.1 (lX6_struckSights L a).2.2.1 (lX6_struckSights L a).2.2.2.1 (lX6_struckSights L a).2.2.2.2 (J L a)) (a : List Value) : Cor Γ 1 0 0 0 (lv_args 0 a) [] (bX6_struckSights_0 J a) := by
  unfold bX6_struckSights_0
  split
  · rename_i x0
    refine c_sub [0] rfl (loc' := [(0, .ref x0)]) ?_
    refine q_aload_n hC 0 dX6_struckSights_0 rfl rfl ?_
    refine q_getR hC (by decide) (by decide) rfl w_22 dX6_struckSights_1 (fun r1 => ?_)
    refine q_aload_n hC 0 dX6_struckSights_4 rfl rfl ?_
    refine q_getI hC (by decide) (by decide) rfl w_16 dX6_struckSights_5 (fun v2 => ?_)
    refine q_cSI hC hnt (stk := []) (as := [.ref r1, .int v2]) sX6_ones nX6_ones rfl w_549 w_551 w_35 w_550 (Nat.le_of_ble_eq_true rfl) dX6_struckSights_8 rfl (fun v3 => ?_)
    exact q_iret hC dX6_struckSights_11 (Nat.le_of_ble_eq_true rfl) (Nat.le_of_ble_eq_true rfl)
  · exact c_no
theorem sX6_struckSights : Snd yX6_struckSights (.code yX6_struckSights cX6_struckSights 1 (some .int)) rmX6_struckSights SX6_struckSights := by
  refine Snd.of lX6_struckSights (by decide +kernel) (fun _ => rfl) ?_
  intro Γ hC hnt hnm J hJ L a
  match L with
  | 0 => exact pX6_struckSights_0 hC hnt J hJ a
  | L + 1 => exact c_no
/-! SpiritWall$State.markedHeights()I -/
theorem dX6_markedHeights_0 : decode cX6_markedHeights 0 = .ok (.aload_n 0, 1) := by decide +kernel
theorem dX6_markedHeights_1 : decode cX6_markedHeights 1 = .ok (.getfield 26, 3) := by decide +kernel
theorem dX6_markedHeights_4 : decode cX6_markedHeights 4 = .ok (.bipush 12, 2) := by decide +kernel
theorem dX6_markedHeights_6 : decode cX6_markedHeights 6 = .ok (.invokestatic 81, 3) := by decide +kernel
theorem dX6_markedHeights_9 : decode cX6_markedHeights 9 = .ok (.ireturn, 1) := by decide +kernel
def rmX6_markedHeights : Room := rmk 8 0 0 194
theorem nX6_markedHeights : nameOk yX6_markedHeights 0 = true := by decide +kernel
def bX6_markedHeights_0 (J : JT) : List Value → Sem
  | [.ref x0] =>
    gR 6 4 x0 fun r1 =>
    cI SX6_ones [.ref r1, .int 12] fun v2 =>
    rI v2
  | _ => no
def bX6_markedHeights (J : JT) : JT := fun L a => match L with
  | 0 => bX6_markedHeights_0 J a
  | _ => no
def SX6_markedHeights : ST := mk 1 bX6_markedHeights
def lX6_markedHeights (L : Nat) (a : List Value) : Nat × Nat × Nat × List (Nat × Value) × List Value := match L with
  | 0 => (0, 0, 0, lv_args 0 a, [])
  | _ => (0, 0, 0, [], [])
theorem pX6_markedHeights_0 {Γ : CT} (hC : Ctx Γ "SpiritWall$State" cX6_markedHeights 1 (some .int) rmX6_markedHeights) (hnt : NT Γ) (J : JT) (hJ : ∀ L a, Cor Γ 1 (lX6_markedHeights L a).1 (lX6_markedHeights L a).2.1 (lX6_markedHeights L a).2.2.1 (lX6_markedHeights L a).2.2.2.1 (lX6_markedHeights L a).2.2.2.2 (J L a)) (a : List Value) : Cor Γ 1 0 0 0 (lv_args 0 a) [] (bX6_markedHeights_0 J a) := by
  unfold bX6_markedHeights_0
  split
  · rename_i x0
    refine c_sub [0] rfl (loc' := [(0, .ref x0)]) ?_
    refine q_aload_n hC 0 dX6_markedHeights_0 rfl rfl ?_
    refine q_getR hC (by decide) (by decide) rfl w_14 dX6_markedHeights_1 (fun r1 => ?_)
    refine q_bipush hC (v := 12) dX6_markedHeights_4 rfl ?_
    refine q_cSI hC hnt (stk := []) (as := [.ref r1, .int 12]) sX6_ones nX6_ones rfl w_549 w_551 w_35 w_550 (Nat.le_of_ble_eq_true rfl) dX6_markedHeights_6 rfl (fun v2 => ?_)
    exact q_iret hC dX6_markedHeights_9 (Nat.le_of_ble_eq_true rfl) (Nat.le_of_ble_eq_true rfl)
  · exact c_no
theorem sX6_markedHeights : Snd yX6_markedHeights (.code yX6_markedHeights cX6_markedHeights 1 (some .int)) rmX6_markedHeights SX6_markedHeights := by
  refine Snd.of lX6_markedHeights (by decide +kernel) (fun _ => rfl) ?_
  intro Γ hC hnt hnm J hJ L a
  match L with
  | 0 => exact pX6_markedHeights_0 hC hnt J hJ a
  | L + 1 => exact c_no
/-! SpiritWall.count(I)I -/
theorem dX10_count_0 : decode cX10_count 0 = .ok (.aload_n 0, 1) := by decide +kernel
theorem dX10_count_1 : decode cX10_count 1 = .ok (.aload_n 0, 1) := by decide +kernel
theorem dX10_count_2 : decode cX10_count 2 = .ok (.getfield 31, 3) := by decide +kernel
theorem dX10_count_5 : decode cX10_count 5 = .ok (.invokevirtual 135, 3) := by decide +kernel
theorem dX10_count_8 : decode cX10_count 8 = .ok (.iload_n 1, 1) := by decide +kernel
theorem dX10_count_9 : decode cX10_count 9 = .ok (.tableswitch 155 0 10 #[59, 67, 75, 83, 91, 99, 107, 115, 123, 131, 139], 59) := by decide +kernel
theorem dX10_count_68 : decode cX10_count 68 = .ok (.aload_n 0, 1) := by decide +kernel
theorem dX10_count_69 : decode cX10_count 69 = .ok (.getfield 24, 3) := by decide +kernel
theorem dX10_count_72 : decode cX10_count 72 = .ok (.getfield 132, 3) := by decide +kernel
theorem dX10_count_75 : decode cX10_count 75 = .ok (.ireturn, 1) := by decide +kernel
theorem dX10_count_76 : decode cX10_count 76 = .ok (.aload_n 0, 1) := by decide +kernel
theorem dX10_count_77 : decode cX10_count 77 = .ok (.getfield 31, 3) := by decide +kernel
theorem dX10_count_80 : decode cX10_count 80 = .ok (.invokevirtual 138, 3) := by decide +kernel
theorem dX10_count_83 : decode cX10_count 83 = .ok (.ireturn, 1) := by decide +kernel
theorem dX10_count_84 : decode cX10_count 84 = .ok (.aload_n 0, 1) := by decide +kernel
theorem dX10_count_85 : decode cX10_count 85 = .ok (.getfield 31, 3) := by decide +kernel
theorem dX10_count_88 : decode cX10_count 88 = .ok (.getfield 142, 3) := by decide +kernel
theorem dX10_count_91 : decode cX10_count 91 = .ok (.ireturn, 1) := by decide +kernel
theorem dX10_count_92 : decode cX10_count 92 = .ok (.aload_n 0, 1) := by decide +kernel
theorem dX10_count_93 : decode cX10_count 93 = .ok (.getfield 31, 3) := by decide +kernel
theorem dX10_count_96 : decode cX10_count 96 = .ok (.invokevirtual 145, 3) := by decide +kernel
theorem dX10_count_99 : decode cX10_count 99 = .ok (.ireturn, 1) := by decide +kernel
theorem dX10_count_100 : decode cX10_count 100 = .ok (.aload_n 0, 1) := by decide +kernel
theorem dX10_count_101 : decode cX10_count 101 = .ok (.getfield 62, 3) := by decide +kernel
theorem dX10_count_104 : decode cX10_count 104 = .ok (.getfield 148, 3) := by decide +kernel
theorem dX10_count_107 : decode cX10_count 107 = .ok (.ireturn, 1) := by decide +kernel
theorem dX10_count_108 : decode cX10_count 108 = .ok (.aload_n 0, 1) := by decide +kernel
theorem dX10_count_109 : decode cX10_count 109 = .ok (.getfield 71, 3) := by decide +kernel
theorem dX10_count_112 : decode cX10_count 112 = .ok (.getfield 149, 3) := by decide +kernel
theorem dX10_count_115 : decode cX10_count 115 = .ok (.ireturn, 1) := by decide +kernel
theorem dX10_count_116 : decode cX10_count 116 = .ok (.aload_n 0, 1) := by decide +kernel
theorem dX10_count_117 : decode cX10_count 117 = .ok (.getfield 80, 3) := by decide +kernel
theorem dX10_count_120 : decode cX10_count 120 = .ok (.getfield 150, 3) := by decide +kernel
theorem dX10_count_123 : decode cX10_count 123 = .ok (.ireturn, 1) := by decide +kernel
theorem dX10_count_124 : decode cX10_count 124 = .ok (.aload_n 0, 1) := by decide +kernel
theorem dX10_count_125 : decode cX10_count 125 = .ok (.getfield 80, 3) := by decide +kernel
theorem dX10_count_128 : decode cX10_count 128 = .ok (.getfield 151, 3) := by decide +kernel
theorem dX10_count_131 : decode cX10_count 131 = .ok (.ireturn, 1) := by decide +kernel
theorem dX10_count_132 : decode cX10_count 132 = .ok (.aload_n 0, 1) := by decide +kernel
theorem dX10_count_133 : decode cX10_count 133 = .ok (.getfield 31, 3) := by decide +kernel
theorem dX10_count_136 : decode cX10_count 136 = .ok (.invokevirtual 154, 3) := by decide +kernel
theorem dX10_count_139 : decode cX10_count 139 = .ok (.ireturn, 1) := by decide +kernel
theorem dX10_count_140 : decode cX10_count 140 = .ok (.aload_n 0, 1) := by decide +kernel
theorem dX10_count_141 : decode cX10_count 141 = .ok (.getfield 44, 3) := by decide +kernel
theorem dX10_count_144 : decode cX10_count 144 = .ok (.getfield 129, 3) := by decide +kernel
theorem dX10_count_147 : decode cX10_count 147 = .ok (.ireturn, 1) := by decide +kernel
theorem dX10_count_148 : decode cX10_count 148 = .ok (.aload_n 0, 1) := by decide +kernel
theorem dX10_count_149 : decode cX10_count 149 = .ok (.getfield 24, 3) := by decide +kernel
theorem dX10_count_152 : decode cX10_count 152 = .ok (.getfield 132, 3) := by decide +kernel
theorem dX10_count_155 : decode cX10_count 155 = .ok (.aload_n 0, 1) := by decide +kernel
theorem dX10_count_156 : decode cX10_count 156 = .ok (.getfield 71, 3) := by decide +kernel
theorem dX10_count_159 : decode cX10_count 159 = .ok (.getfield 149, 3) := by decide +kernel
theorem dX10_count_162 : decode cX10_count 162 = .ok (.isub, 1) := by decide +kernel
theorem dX10_count_163 : decode cX10_count 163 = .ok (.ireturn, 1) := by decide +kernel
theorem dX10_count_164 : decode cX10_count 164 = .ok (.iconst (-1), 1) := by decide +kernel
theorem dX10_count_165 : decode cX10_count 165 = .ok (.ireturn, 1) := by decide +kernel
def rmX10_count : Room := rmk 13 0 0 311
theorem nX10_count : nameOk yX10_count 1 = true := by decide +kernel
def bX10_count_0 (J : JT) : List Value → Sem
  | [.ref x0, .int x1] =>
    gR 10 3 x0 fun r1 =>
    ob 10 x0 (cV SX10_survey [.ref x0, .ref r1] <|
    sw x1 (0) 11 fun k => match k with
    | 0 => (gR 10 2 x0 fun r2 =>
    gI 9 0 r2 fun v3 =>
    rI v3)
    | 1 => (gR 10 3 x0 fun r4 =>
    ob 6 r4 (cI SX6_benches [.ref r4] fun v5 =>
    rI v5))
    | 2 => (gR 10 3 x0 fun r6 =>
    gI 6 6 r6 fun v7 =>
    rI v7)
    | 3 => (gR 10 3 x0 fun r8 =>
    ob 6 r8 (cI SX6_struckSights [.ref r8] fun v9 =>
    rI v9))
    | 4 => (gR 10 8 x0 fun r10 =>
    gI 0 3 r10 fun v11 =>
    rI v11)
    | 5 => (gR 10 9 x0 fun r12 =>
    gI 1 1 r12 fun v13 =>
    rI v13)
    | 6 => (gR 10 10 x0 fun r14 =>
    gI 4 2 r14 fun v15 =>
    rI v15)
    | 7 => (gR 10 10 x0 fun r16 =>
    gI 4 3 r16 fun v17 =>
    rI v17)
    | 8 => (gR 10 3 x0 fun r18 =>
    ob 6 r18 (cI SX6_markedHeights [.ref r18] fun v19 =>
    rI v19))
    | 9 => (gR 10 6 x0 fun r20 =>
    gI 3 1 r20 fun v21 =>
    rI v21)
    | 10 => (gR 10 2 x0 fun r22 =>
    gI 9 0 r22 fun v23 =>
    gR 10 9 x0 fun r24 =>
    gI 1 1 r24 fun v25 =>
    rI (v23 - v25))
    | _ => (rI (-1)))
  | _ => no
def bX10_count (J : JT) : JT := fun L a => match L with
  | 0 => bX10_count_0 J a
  | _ => no
def SX10_count : ST := mk 2 bX10_count
def lX10_count (L : Nat) (a : List Value) : Nat × Nat × Nat × List (Nat × Value) × List Value := match L with
  | 0 => (0, 0, 0, lv_args 0 a, [])
  | _ => (0, 0, 0, [], [])
theorem pX10_count_0 {Γ : CT} (hC : Ctx Γ "SpiritWall" cX10_count 2 (some .int) rmX10_count) (hnt : NT Γ) (J : JT) (hJ : ∀ L a, Cor Γ 2 (lX10_count L a).1 (lX10_count L a).2.1 (lX10_count L a).2.2.1 (lX10_count L a).2.2.2.1 (lX10_count L a).2.2.2.2 (J L a)) (a : List Value) : Cor Γ 2 0 0 0 (lv_args 0 a) [] (bX10_count_0 J a) := by
  unfold bX10_count_0
  split
  · rename_i x0 x1
    refine c_sub [0, 1] rfl (loc' := [(0, .ref x0), (1, .int x1)]) ?_
    refine q_aload_n hC 0 dX10_count_0 rfl rfl ?_
    refine q_aload_n hC 0 dX10_count_1 rfl rfl ?_
    refine q_getR hC (by decide) (by decide) rfl w_133 dX10_count_2 (fun r1 => ?_)
    refine q_cVV hC hnt (stk := []) (as := [.ref r1]) sX10_survey (ci := 10) (by decide) rfl nX10_survey rfl w_552 w_554 w_555 w_27 w_553 (Nat.le_of_ble_eq_true rfl) dX10_count_5 rfl ?_
    refine q_iload_n hC 1 dX10_count_8 rfl rfl ?_
    refine q_sw hC (0) 11 (fun k => ([68, 76, 84, 92, 100, 108, 116, 124, 132, 140, 148] : List Nat).getD k 164) dX10_count_9 rfl rfl (by decide +kernel) rfl ?_
    intro i hi
    match i, hi with
    | 0, _ =>
      refine c_pc (pc' := 68) rfl ?_
      refine q_aload_n hC 0 dX10_count_68 rfl rfl ?_
      refine q_getR hC (by decide) (by decide) rfl w_131 dX10_count_69 (fun r2 => ?_)
      refine q_getI hC (by decide) (by decide) rfl w_346 dX10_count_72 (fun v3 => ?_)
      exact q_iret hC dX10_count_75 (Nat.le_of_ble_eq_true rfl) (Nat.le_of_ble_eq_true rfl)
    | 1, _ =>
      refine c_pc (pc' := 76) rfl ?_
      refine q_aload_n hC 0 dX10_count_76 rfl rfl ?_
      refine q_getR hC (by decide) (by decide) rfl w_133 dX10_count_77 (fun r4 => ?_)
      refine q_cVI hC hnt (stk := []) (as := []) sX6_benches (ci := 6) (by decide) rfl nX6_benches rfl w_556 w_558 w_559 w_35 w_557 (Nat.le_of_ble_eq_true rfl) dX10_count_80 rfl (fun v5 => ?_)
      exact q_iret hC dX10_count_83 (Nat.le_of_ble_eq_true rfl) (Nat.le_of_ble_eq_true rfl)
    | 2, _ =>
      refine c_pc (pc' := 84) rfl ?_
      refine q_aload_n hC 0 dX10_count_84 rfl rfl ?_
      refine q_getR hC (by decide) (by decide) rfl w_133 dX10_count_85 (fun r6 => ?_)
      refine q_getI hC (by decide) (by decide) rfl w_560 dX10_count_88 (fun v7 => ?_)
      exact q_iret hC dX10_count_91 (Nat.le_of_ble_eq_true rfl) (Nat.le_of_ble_eq_true rfl)
    | 3, _ =>
      refine c_pc (pc' := 92) rfl ?_
      refine q_aload_n hC 0 dX10_count_92 rfl rfl ?_
      refine q_getR hC (by decide) (by decide) rfl w_133 dX10_count_93 (fun r8 => ?_)
      refine q_cVI hC hnt (stk := []) (as := []) sX6_struckSights (ci := 6) (by decide) rfl nX6_struckSights rfl w_561 w_563 w_564 w_35 w_562 (Nat.le_of_ble_eq_true rfl) dX10_count_96 rfl (fun v9 => ?_)
      exact q_iret hC dX10_count_99 (Nat.le_of_ble_eq_true rfl) (Nat.le_of_ble_eq_true rfl)
    | 4, _ =>
      refine c_pc (pc' := 100) rfl ?_
      refine q_aload_n hC 0 dX10_count_100 rfl rfl ?_
      refine q_getR hC (by decide) (by decide) rfl w_150 dX10_count_101 (fun r10 => ?_)
      refine q_getI hC (by decide) (by decide) rfl w_565 dX10_count_104 (fun v11 => ?_)
      exact q_iret hC dX10_count_107 (Nat.le_of_ble_eq_true rfl) (Nat.le_of_ble_eq_true rfl)
    | 5, _ =>
      refine c_pc (pc' := 108) rfl ?_
      refine q_aload_n hC 0 dX10_count_108 rfl rfl ?_
      refine q_getR hC (by decide) (by decide) rfl w_155 dX10_count_109 (fun r12 => ?_)
      refine q_getI hC (by decide) (by decide) rfl w_566 dX10_count_112 (fun v13 => ?_)
      exact q_iret hC dX10_count_115 (Nat.le_of_ble_eq_true rfl) (Nat.le_of_ble_eq_true rfl)
    | 6, _ =>
      refine c_pc (pc' := 116) rfl ?_
      refine q_aload_n hC 0 dX10_count_116 rfl rfl ?_
      refine q_getR hC (by decide) (by decide) rfl w_160 dX10_count_117 (fun r14 => ?_)
      refine q_getI hC (by decide) (by decide) rfl w_567 dX10_count_120 (fun v15 => ?_)
      exact q_iret hC dX10_count_123 (Nat.le_of_ble_eq_true rfl) (Nat.le_of_ble_eq_true rfl)
    | 7, _ =>
      refine c_pc (pc' := 124) rfl ?_
      refine q_aload_n hC 0 dX10_count_124 rfl rfl ?_
      refine q_getR hC (by decide) (by decide) rfl w_160 dX10_count_125 (fun r16 => ?_)
      refine q_getI hC (by decide) (by decide) rfl w_568 dX10_count_128 (fun v17 => ?_)
      exact q_iret hC dX10_count_131 (Nat.le_of_ble_eq_true rfl) (Nat.le_of_ble_eq_true rfl)
    | 8, _ =>
      refine c_pc (pc' := 132) rfl ?_
      refine q_aload_n hC 0 dX10_count_132 rfl rfl ?_
      refine q_getR hC (by decide) (by decide) rfl w_133 dX10_count_133 (fun r18 => ?_)
      refine q_cVI hC hnt (stk := []) (as := []) sX6_markedHeights (ci := 6) (by decide) rfl nX6_markedHeights rfl w_569 w_571 w_572 w_35 w_570 (Nat.le_of_ble_eq_true rfl) dX10_count_136 rfl (fun v19 => ?_)
      exact q_iret hC dX10_count_139 (Nat.le_of_ble_eq_true rfl) (Nat.le_of_ble_eq_true rfl)
    | 9, _ =>
      refine c_pc (pc' := 140) rfl ?_
      refine q_aload_n hC 0 dX10_count_140 rfl rfl ?_
      refine q_getR hC (by decide) (by decide) rfl w_140 dX10_count_141 (fun r20 => ?_)
      refine q_getI hC (by decide) (by decide) rfl w_345 dX10_count_144 (fun v21 => ?_)
      exact q_iret hC dX10_count_147 (Nat.le_of_ble_eq_true rfl) (Nat.le_of_ble_eq_true rfl)
    | 10, _ =>
      refine c_pc (pc' := 148) rfl ?_
      refine q_aload_n hC 0 dX10_count_148 rfl rfl ?_
      refine q_getR hC (by decide) (by decide) rfl w_131 dX10_count_149 (fun r22 => ?_)
      refine q_getI hC (by decide) (by decide) rfl w_346 dX10_count_152 (fun v23 => ?_)
      refine q_aload_n hC 0 dX10_count_155 rfl rfl ?_
      refine q_getR hC (by decide) (by decide) rfl w_155 dX10_count_156 (fun r24 => ?_)
      refine q_getI hC (by decide) (by decide) rfl w_566 dX10_count_159 (fun v25 => ?_)
      refine q_isub hC dX10_count_162 ?_
      exact q_iret hC dX10_count_163 (Nat.le_of_ble_eq_true rfl) (Nat.le_of_ble_eq_true rfl)
    | 11, _ =>
      refine c_pc (pc' := 164) rfl ?_
      refine q_iconst hC dX10_count_164 rfl ?_
      exact q_iret hC dX10_count_165 (Nat.le_of_ble_eq_true rfl) (Nat.le_of_ble_eq_true rfl)
    | k + 12, h => exact absurd h (by omega)
  · exact c_no
theorem sX10_count : Snd yX10_count (.code yX10_count cX10_count 2 (some .int)) rmX10_count SX10_count := by
  refine Snd.of lX10_count (by decide +kernel) (fun _ => rfl) ?_
  intro Γ hC hnt hnm J hJ L a
  match L with
  | 0 => exact pX10_count_0 hC hnt J hJ a
  | L + 1 => exact c_no
/-! SpiritWall.setting(I)I -/
theorem dX10_setting_0 : decode cX10_setting 0 = .ok (.iload_n 1, 1) := by decide +kernel
theorem dX10_setting_1 : decode cX10_setting 1 = .ok (.iconst 4, 1) := by decide +kernel
theorem dX10_setting_2 : decode cX10_setting 2 = .ok (.if_icmp .ne 19, 3) := by decide +kernel
theorem dX10_setting_5 : decode cX10_setting 5 = .ok (.aload_n 0, 1) := by decide +kernel
theorem dX10_setting_6 : decode cX10_setting 6 = .ok (.getfield 31, 3) := by decide +kernel
theorem dX10_setting_9 : decode cX10_setting 9 = .ok (.getfield 157, 3) := by decide +kernel
theorem dX10_setting_12 : decode cX10_setting 12 = .ok (.ifCond .eq 7, 3) := by decide +kernel
theorem dX10_setting_15 : decode cX10_setting 15 = .ok (.iconst 1, 1) := by decide +kernel
theorem dX10_setting_16 : decode cX10_setting 16 = .ok (.goto 4, 3) := by decide +kernel
theorem dX10_setting_19 : decode cX10_setting 19 = .ok (.iconst 0, 1) := by decide +kernel
theorem dX10_setting_20 : decode cX10_setting 20 = .ok (.ireturn, 1) := by decide +kernel
theorem dX10_setting_21 : decode cX10_setting 21 = .ok (.iload_n 1, 1) := by decide +kernel
theorem dX10_setting_22 : decode cX10_setting 22 = .ok (.ifCond .lt 19, 3) := by decide +kernel
theorem dX10_setting_25 : decode cX10_setting 25 = .ok (.iload_n 1, 1) := by decide +kernel
theorem dX10_setting_26 : decode cX10_setting 26 = .ok (.iconst 4, 1) := by decide +kernel
theorem dX10_setting_27 : decode cX10_setting 27 = .ok (.if_icmp .ge 14, 3) := by decide +kernel
theorem dX10_setting_30 : decode cX10_setting 30 = .ok (.aload_n 0, 1) := by decide +kernel
theorem dX10_setting_31 : decode cX10_setting 31 = .ok (.getfield 31, 3) := by decide +kernel
theorem dX10_setting_34 : decode cX10_setting 34 = .ok (.iload_n 1, 1) := by decide +kernel
theorem dX10_setting_35 : decode cX10_setting 35 = .ok (.invokevirtual 160, 3) := by decide +kernel
theorem dX10_setting_38 : decode cX10_setting 38 = .ok (.goto 4, 3) := by decide +kernel
theorem dX10_setting_41 : decode cX10_setting 41 = .ok (.iconst (-1), 1) := by decide +kernel
theorem dX10_setting_42 : decode cX10_setting 42 = .ok (.ireturn, 1) := by decide +kernel
def rmX10_setting : Room := rmk 8 0 0 192
theorem nX10_setting : nameOk yX10_setting 1 = true := by decide +kernel
def bX10_setting_0 (J : JT) : List Value → Sem
  | [.ref x0, .int x1] =>
    br (x1 = (4 : Int32))
    (gR 10 3 x0 fun r3 =>
    gI 6 1 r3 fun v4 =>
    br (v4 = 0)
    (rI 0)
    (rI 1))
    (br (x1 < 0)
    (rI (-1))
    (br ((4 : Int32) ≤ x1)
    (rI (-1))
    (gR 10 3 x0 fun r1 =>
    ob 6 r1 (cI SX6_settingOf [.ref r1, .int x1] fun v2 =>
    rI v2))))
  | _ => no
def bX10_setting (J : JT) : JT := fun L a => match L with
  | 0 => bX10_setting_0 J a
  | _ => no
def SX10_setting : ST := mk 2 bX10_setting
def lX10_setting (L : Nat) (a : List Value) : Nat × Nat × Nat × List (Nat × Value) × List Value := match L with
  | 0 => (0, 0, 0, lv_args 0 a, [])
  | _ => (0, 0, 0, [], [])
theorem pX10_setting_0 {Γ : CT} (hC : Ctx Γ "SpiritWall" cX10_setting 2 (some .int) rmX10_setting) (hnt : NT Γ) (J : JT) (hJ : ∀ L a, Cor Γ 2 (lX10_setting L a).1 (lX10_setting L a).2.1 (lX10_setting L a).2.2.1 (lX10_setting L a).2.2.2.1 (lX10_setting L a).2.2.2.2 (J L a)) (a : List Value) : Cor Γ 2 0 0 0 (lv_args 0 a) [] (bX10_setting_0 J a) := by
  unfold bX10_setting_0
  split
  · rename_i x0 x1
    refine c_sub [0, 1] rfl (loc' := [(0, .ref x0), (1, .int x1)]) ?_
    refine q_iload_n hC 1 dX10_setting_0 rfl rfl ?_
    refine q_iconst hC dX10_setting_1 rfl ?_
    refine q_ic_ne hC 21 dX10_setting_2 rfl ?_ ?_
    · refine q_iload_n hC 1 dX10_setting_21 rfl rfl ?_
      refine q_if_lt hC 41 dX10_setting_22 rfl ?_ ?_
      · refine q_iconst hC dX10_setting_41 rfl ?_
        exact q_iret hC dX10_setting_42 (Nat.le_of_ble_eq_true rfl) (Nat.le_of_ble_eq_true rfl)
      · refine q_iload_n hC 1 dX10_setting_25 rfl rfl ?_
        refine q_iconst hC dX10_setting_26 rfl ?_
        refine q_ic_ge hC 41 dX10_setting_27 rfl ?_ ?_
        · refine q_iconst hC dX10_setting_41 rfl ?_
          exact q_iret hC dX10_setting_42 (Nat.le_of_ble_eq_true rfl) (Nat.le_of_ble_eq_true rfl)
        · refine q_aload_n hC 0 dX10_setting_30 rfl rfl ?_
          refine q_getR hC (by decide) (by decide) rfl w_133 dX10_setting_31 (fun r1 => ?_)
          refine q_iload_n hC 1 dX10_setting_34 rfl rfl ?_
          refine q_cVI hC hnt (stk := []) (as := [.int x1]) sX6_settingOf (ci := 6) (by decide) rfl nX6_settingOf rfl w_544 w_355 w_356 w_35 w_354 (Nat.le_of_ble_eq_true rfl) dX10_setting_35 rfl (fun v2 => ?_)
          refine q_goto hC 42 dX10_setting_38 rfl ?_
          exact q_iret hC dX10_setting_42 (Nat.le_of_ble_eq_true rfl) (Nat.le_of_ble_eq_true rfl)
    · refine q_aload_n hC 0 dX10_setting_5 rfl rfl ?_
      refine q_getR hC (by decide) (by decide) rfl w_133 dX10_setting_6 (fun r3 => ?_)
      refine q_getI hC (by decide) (by decide) rfl w_573 dX10_setting_9 (fun v4 => ?_)
      refine q_if_eq hC 19 dX10_setting_12 rfl ?_ ?_
      · refine q_iconst hC dX10_setting_19 rfl ?_
        exact q_iret hC dX10_setting_20 (Nat.le_of_ble_eq_true rfl) (Nat.le_of_ble_eq_true rfl)
      · refine q_iconst hC dX10_setting_15 rfl ?_
        refine q_goto hC 20 dX10_setting_16 rfl ?_
        exact q_iret hC dX10_setting_20 (Nat.le_of_ble_eq_true rfl) (Nat.le_of_ble_eq_true rfl)
  · exact c_no
theorem sX10_setting : Snd yX10_setting (.code yX10_setting cX10_setting 2 (some .int)) rmX10_setting SX10_setting := by
  refine Snd.of lX10_setting (by decide +kernel) (fun _ => rfl) ?_
  intro Γ hC hnt hnm J hJ L a
  match L with
  | 0 => exact pX10_setting_0 hC hnt J hJ a
  | L + 1 => exact c_no
/-! SpiritWall.levelError()I -/
theorem dX10_levelError_0 : decode cX10_levelError 0 = .ok (.aload_n 0, 1) := by decide +kernel
theorem dX10_levelError_1 : decode cX10_levelError 1 = .ok (.getfield 62, 3) := by decide +kernel
theorem dX10_levelError_4 : decode cX10_levelError 4 = .ok (.aload_n 0, 1) := by decide +kernel
theorem dX10_levelError_5 : decode cX10_levelError 5 = .ok (.getfield 31, 3) := by decide +kernel
theorem dX10_levelError_8 : decode cX10_levelError 8 = .ok (.invokevirtual 164, 3) := by decide +kernel
theorem dX10_levelError_11 : decode cX10_levelError 11 = .ok (.aload_n 0, 1) := by decide +kernel
theorem dX10_levelError_12 : decode cX10_levelError 12 = .ok (.getfield 62, 3) := by decide +kernel
theorem dX10_levelError_15 : decode cX10_levelError 15 = .ok (.getfield 167, 3) := by decide +kernel
theorem dX10_levelError_18 : decode cX10_levelError 18 = .ok (.ireturn, 1) := by decide +kernel
def rmX10_levelError : Room := rmk 12 0 0 290
theorem nX10_levelError : nameOk yX10_levelError 0 = true := by decide +kernel
def bX10_levelError_0 (J : JT) : List Value → Sem
  | [.ref x0] =>
    gR 10 8 x0 fun r1 =>
    gR 10 3 x0 fun r2 =>
    ob 0 r1 (cV SX0_measure [.ref r1, .ref r2] <|
    gR 10 8 x0 fun r3 =>
    gI 0 2 r3 fun v4 =>
    rI v4)
  | _ => no
def bX10_levelError (J : JT) : JT := fun L a => match L with
  | 0 => bX10_levelError_0 J a
  | _ => no
def SX10_levelError : ST := mk 1 bX10_levelError
def lX10_levelError (L : Nat) (a : List Value) : Nat × Nat × Nat × List (Nat × Value) × List Value := match L with
  | 0 => (0, 0, 0, lv_args 0 a, [])
  | _ => (0, 0, 0, [], [])
theorem pX10_levelError_0 {Γ : CT} (hC : Ctx Γ "SpiritWall" cX10_levelError 1 (some .int) rmX10_levelError) (hnt : NT Γ) (J : JT) (hJ : ∀ L a, Cor Γ 1 (lX10_levelError L a).1 (lX10_levelError L a).2.1 (lX10_levelError L a).2.2.1 (lX10_levelError L a).2.2.2.1 (lX10_levelError L a).2.2.2.2 (J L a)) (a : List Value) : Cor Γ 1 0 0 0 (lv_args 0 a) [] (bX10_levelError_0 J a) := by
  unfold bX10_levelError_0
  split
  · rename_i x0
    refine c_sub [0] rfl (loc' := [(0, .ref x0)]) ?_
    refine q_aload_n hC 0 dX10_levelError_0 rfl rfl ?_
    refine q_getR hC (by decide) (by decide) rfl w_150 dX10_levelError_1 (fun r1 => ?_)
    refine q_aload_n hC 0 dX10_levelError_4 rfl rfl ?_
    refine q_getR hC (by decide) (by decide) rfl w_133 dX10_levelError_5 (fun r2 => ?_)
    refine q_cVV hC hnt (stk := []) (as := [.ref r2]) sX0_measure (ci := 0) (by decide) rfl nX0_measure rfl w_536 w_538 w_539 w_149 w_537 (Nat.le_of_ble_eq_true rfl) dX10_levelError_8 rfl ?_
    refine q_aload_n hC 0 dX10_levelError_11 rfl rfl ?_
    refine q_getR hC (by decide) (by decide) rfl w_150 dX10_levelError_12 (fun r3 => ?_)
    refine q_getI hC (by decide) (by decide) rfl w_574 dX10_levelError_15 (fun v4 => ?_)
    exact q_iret hC dX10_levelError_18 (Nat.le_of_ble_eq_true rfl) (Nat.le_of_ble_eq_true rfl)
  · exact c_no
theorem sX10_levelError : Snd yX10_levelError (.code yX10_levelError cX10_levelError 1 (some .int)) rmX10_levelError SX10_levelError := by
  refine Snd.of lX10_levelError (by decide +kernel) (fun _ => rfl) ?_
  intro Γ hC hnt hnm J hJ L a
  match L with
  | 0 => exact pX10_levelError_0 hC hnt J hJ a
  | L + 1 => exact c_no
/-! SpiritWall.needMark(I)V -/
theorem dX10_needMark_0 : decode cX10_needMark 0 = .ok (.iload_n 1, 1) := by decide +kernel
theorem dX10_needMark_1 : decode cX10_needMark 1 = .ok (.ifCond .lt 14, 3) := by decide +kernel
theorem dX10_needMark_4 : decode cX10_needMark 4 = .ok (.iload_n 1, 1) := by decide +kernel
theorem dX10_needMark_5 : decode cX10_needMark 5 = .ok (.aload_n 0, 1) := by decide +kernel
theorem dX10_needMark_6 : decode cX10_needMark 6 = .ok (.getfield 24, 3) := by decide +kernel
theorem dX10_needMark_9 : decode cX10_needMark 9 = .ok (.getfield 132, 3) := by decide +kernel
theorem dX10_needMark_12 : decode cX10_needMark 12 = .ok (.if_icmp .lt 14, 3) := by decide +kernel
theorem dX10_needMark_15 : decode cX10_needMark 15 = .ok (.new 437, 3) := by decide +kernel
theorem dX10_needMark_18 : decode cX10_needMark 18 = .ok (.dup, 1) := by decide +kernel
theorem dX10_needMark_19 : decode cX10_needMark 19 = .ok (.ldc_w 439, 3) := by decide +kernel
theorem dX10_needMark_22 : decode cX10_needMark 22 = .ok (.invokespecial 441, 3) := by decide +kernel
theorem dX10_needMark_25 : decode cX10_needMark 25 = .ok (.athrow, 1) := by decide +kernel
theorem dX10_needMark_26 : decode cX10_needMark 26 = .ok (.return_, 1) := by decide +kernel
def rmX10_needMark : Room := rmk 6 1 6 150
theorem nX10_needMark : nameOk yX10_needMark 1 = true := by decide +kernel
def bX10_needMark_0 (J : JT) : List Value → Sem
  | [.ref x0, .int x1] =>
    br (x1 < 0)
    (thr 1)
    (gR 10 2 x0 fun r1 =>
    gI 9 0 r1 fun v2 =>
    br (x1 < v2)
    (rV)
    (thr 1))
  | _ => no
def bX10_needMark (J : JT) : JT := fun L a => match L with
  | 0 => bX10_needMark_0 J a
  | _ => no
def SX10_needMark : ST := mk 2 bX10_needMark
def lX10_needMark (L : Nat) (a : List Value) : Nat × Nat × Nat × List (Nat × Value) × List Value := match L with
  | 0 => (0, 0, 0, lv_args 0 a, [])
  | _ => (0, 0, 0, [], [])
theorem pX10_needMark_0 {Γ : CT} (hC : Ctx Γ "SpiritWall" cX10_needMark 2 none rmX10_needMark) (hnt : NT Γ) (J : JT) (hJ : ∀ L a, Cor Γ 2 (lX10_needMark L a).1 (lX10_needMark L a).2.1 (lX10_needMark L a).2.2.1 (lX10_needMark L a).2.2.2.1 (lX10_needMark L a).2.2.2.2 (J L a)) (a : List Value) : Cor Γ 2 0 0 0 (lv_args 0 a) [] (bX10_needMark_0 J a) := by
  unfold bX10_needMark_0
  split
  · rename_i x0 x1
    refine c_sub [0, 1] rfl (loc' := [(0, .ref x0), (1, .int x1)]) ?_
    refine q_iload_n hC 1 dX10_needMark_0 rfl rfl ?_
    refine q_if_lt hC 15 dX10_needMark_1 rfl ?_ ?_
    · exact q_throwW hC (by decide) (by decide) (by decide +kernel) (i := 20) (tx := "there is no such mark") (by decide +kernel) hnt dX10_needMark_15 dX10_needMark_18 dX10_needMark_19 dX10_needMark_22 dX10_needMark_25 (Nat.le_of_ble_eq_true rfl) (Nat.le_of_ble_eq_true rfl) ⟨(Nat.le_of_ble_eq_true rfl), (Nat.le_of_ble_eq_true rfl)⟩
    · refine q_iload_n hC 1 dX10_needMark_4 rfl rfl ?_
      refine q_aload_n hC 0 dX10_needMark_5 rfl rfl ?_
      refine q_getR hC (by decide) (by decide) rfl w_131 dX10_needMark_6 (fun r1 => ?_)
      refine q_getI hC (by decide) (by decide) rfl w_346 dX10_needMark_9 (fun v2 => ?_)
      refine q_ic_lt hC 26 dX10_needMark_12 rfl ?_ ?_
      · exact q_vret hC dX10_needMark_26 (Nat.le_of_ble_eq_true rfl) (Nat.le_of_ble_eq_true rfl)
      · exact q_throwW hC (by decide) (by decide) (by decide +kernel) (i := 20) (tx := "there is no such mark") (by decide +kernel) hnt dX10_needMark_15 dX10_needMark_18 dX10_needMark_19 dX10_needMark_22 dX10_needMark_25 (Nat.le_of_ble_eq_true rfl) (Nat.le_of_ble_eq_true rfl) ⟨(Nat.le_of_ble_eq_true rfl), (Nat.le_of_ble_eq_true rfl)⟩
  · exact c_no
theorem sX10_needMark : Snd yX10_needMark (.code yX10_needMark cX10_needMark 2 none) rmX10_needMark SX10_needMark := by
  refine Snd.of lX10_needMark (by decide +kernel) (fun _ => rfl) ?_
  intro Γ hC hnt hnm J hJ L a
  match L with
  | 0 => exact pX10_needMark_0 hC hnt J hJ a
  | L + 1 => exact c_no
/-! SpiritWall.estimate(II)I -/
theorem dX10_estimate_0 : decode cX10_estimate 0 = .ok (.aload_n 0, 1) := by decide +kernel
theorem dX10_estimate_1 : decode cX10_estimate 1 = .ok (.iload_n 1, 1) := by decide +kernel
theorem dX10_estimate_2 : decode cX10_estimate 2 = .ok (.invokevirtual 170, 3) := by decide +kernel
theorem dX10_estimate_5 : decode cX10_estimate 5 = .ok (.aload_n 0, 1) := by decide +kernel
theorem dX10_estimate_6 : decode cX10_estimate 6 = .ok (.iload_n 2, 1) := by decide +kernel
theorem dX10_estimate_7 : decode cX10_estimate 7 = .ok (.invokevirtual 170, 3) := by decide +kernel
theorem dX10_estimate_10 : decode cX10_estimate 10 = .ok (.aload_n 0, 1) := by decide +kernel
theorem dX10_estimate_11 : decode cX10_estimate 11 = .ok (.getfield 62, 3) := by decide +kernel
theorem dX10_estimate_14 : decode cX10_estimate 14 = .ok (.aload_n 0, 1) := by decide +kernel
theorem dX10_estimate_15 : decode cX10_estimate 15 = .ok (.getfield 31, 3) := by decide +kernel
theorem dX10_estimate_18 : decode cX10_estimate 18 = .ok (.invokevirtual 164, 3) := by decide +kernel
theorem dX10_estimate_21 : decode cX10_estimate 21 = .ok (.aload_n 0, 1) := by decide +kernel
theorem dX10_estimate_22 : decode cX10_estimate 22 = .ok (.getfield 62, 3) := by decide +kernel
theorem dX10_estimate_25 : decode cX10_estimate 25 = .ok (.aload_n 0, 1) := by decide +kernel
theorem dX10_estimate_26 : decode cX10_estimate 26 = .ok (.getfield 62, 3) := by decide +kernel
theorem dX10_estimate_29 : decode cX10_estimate 29 = .ok (.iload_n 1, 1) := by decide +kernel
theorem dX10_estimate_30 : decode cX10_estimate 30 = .ok (.iload_n 2, 1) := by decide +kernel
theorem dX10_estimate_31 : decode cX10_estimate 31 = .ok (.invokevirtual 173, 3) := by decide +kernel
theorem dX10_estimate_34 : decode cX10_estimate 34 = .ok (.aload_n 0, 1) := by decide +kernel
theorem dX10_estimate_35 : decode cX10_estimate 35 = .ok (.getfield 31, 3) := by decide +kernel
theorem dX10_estimate_38 : decode cX10_estimate 38 = .ok (.iconst 0, 1) := by decide +kernel
theorem dX10_estimate_39 : decode cX10_estimate 39 = .ok (.invokevirtual 160, 3) := by decide +kernel
theorem dX10_estimate_42 : decode cX10_estimate 42 = .ok (.invokevirtual 177, 3) := by decide +kernel
theorem dX10_estimate_45 : decode cX10_estimate 45 = .ok (.ireturn, 1) := by decide +kernel
def rmX10_estimate : Room := rmk 12 2 12 290
theorem nX10_estimate : nameOk yX10_estimate 2 = true := by decide +kernel
def bX10_estimate_0 (J : JT) : List Value → Sem
  | [.ref x0, .int x1, .int x2] =>
    ob 10 x0 (cV SX10_needMark [.ref x0, .int x1] <|
    ob 10 x0 (cV SX10_needMark [.ref x0, .int x2] <|
    gR 10 8 x0 fun r1 =>
    gR 10 3 x0 fun r2 =>
    ob 0 r1 (cV SX0_measure [.ref r1, .ref r2] <|
    gR 10 8 x0 fun r3 =>
    gR 10 8 x0 fun r4 =>
    ob 0 r4 (cI SX0_between [.ref r4, .int x1, .int x2] fun v5 =>
    gR 10 3 x0 fun r6 =>
    ob 6 r6 (cI SX6_settingOf [.ref r6, .int 0] fun v7 =>
    ob 0 r3 (cI SX0_estimateOf [.ref r3, .int v5, .int v7] fun v8 =>
    rI v8))))))
  | _ => no
def bX10_estimate (J : JT) : JT := fun L a => match L with
  | 0 => bX10_estimate_0 J a
  | _ => no
def SX10_estimate : ST := mk 3 bX10_estimate
def lX10_estimate (L : Nat) (a : List Value) : Nat × Nat × Nat × List (Nat × Value) × List Value := match L with
  | 0 => (0, 0, 0, lv_args 0 a, [])
  | _ => (0, 0, 0, [], [])
theorem pX10_estimate_0 {Γ : CT} (hC : Ctx Γ "SpiritWall" cX10_estimate 3 (some .int) rmX10_estimate) (hnt : NT Γ) (J : JT) (hJ : ∀ L a, Cor Γ 3 (lX10_estimate L a).1 (lX10_estimate L a).2.1 (lX10_estimate L a).2.2.1 (lX10_estimate L a).2.2.2.1 (lX10_estimate L a).2.2.2.2 (J L a)) (a : List Value) : Cor Γ 3 0 0 0 (lv_args 0 a) [] (bX10_estimate_0 J a) := by
  unfold bX10_estimate_0
  split
  · rename_i x0 x1 x2
    refine c_sub [0, 1, 2] rfl (loc' := [(0, .ref x0), (1, .int x1), (2, .int x2)]) ?_
    refine q_aload_n hC 0 dX10_estimate_0 rfl rfl ?_
    refine q_iload_n hC 1 dX10_estimate_1 rfl rfl ?_
    refine q_cVV hC hnt (stk := []) (as := [.int x1]) sX10_needMark (ci := 10) (by decide) rfl nX10_needMark rfl w_575 w_577 w_578 w_27 w_576 (Nat.le_of_ble_eq_true rfl) dX10_estimate_2 rfl ?_
    refine q_aload_n hC 0 dX10_estimate_5 rfl rfl ?_
    refine q_iload_n hC 2 dX10_estimate_6 rfl rfl ?_
    refine q_cVV hC hnt (stk := []) (as := [.int x2]) sX10_needMark (ci := 10) (by decide) rfl nX10_needMark rfl w_575 w_577 w_578 w_27 w_576 (Nat.le_of_ble_eq_true rfl) dX10_estimate_7 rfl ?_
    refine q_aload_n hC 0 dX10_estimate_10 rfl rfl ?_
    refine q_getR hC (by decide) (by decide) rfl w_150 dX10_estimate_11 (fun r1 => ?_)
    refine q_aload_n hC 0 dX10_estimate_14 rfl rfl ?_
    refine q_getR hC (by decide) (by decide) rfl w_133 dX10_estimate_15 (fun r2 => ?_)
    refine q_cVV hC hnt (stk := []) (as := [.ref r2]) sX0_measure (ci := 0) (by decide) rfl nX0_measure rfl w_536 w_538 w_539 w_149 w_537 (Nat.le_of_ble_eq_true rfl) dX10_estimate_18 rfl ?_
    refine q_aload_n hC 0 dX10_estimate_21 rfl rfl ?_
    refine q_getR hC (by decide) (by decide) rfl w_150 dX10_estimate_22 (fun r3 => ?_)
    refine q_aload_n hC 0 dX10_estimate_25 rfl rfl ?_
    refine q_getR hC (by decide) (by decide) rfl w_150 dX10_estimate_26 (fun r4 => ?_)
    refine q_iload_n hC 1 dX10_estimate_29 rfl rfl ?_
    refine q_iload_n hC 2 dX10_estimate_30 rfl rfl ?_
    refine q_cVI hC hnt (stk := [.ref r3]) (as := [.int x1, .int x2]) sX0_between (ci := 0) (by decide) rfl nX0_between rfl w_579 w_406 w_407 w_149 w_405 (Nat.le_of_ble_eq_true rfl) dX10_estimate_31 rfl (fun v5 => ?_)
    refine q_aload_n hC 0 dX10_estimate_34 rfl rfl ?_
    refine q_getR hC (by decide) (by decide) rfl w_133 dX10_estimate_35 (fun r6 => ?_)
    refine q_iconst hC dX10_estimate_38 rfl ?_
    refine q_cVI hC hnt (stk := [.int v5, .ref r3]) (as := [.int 0]) sX6_settingOf (ci := 6) (by decide) rfl nX6_settingOf rfl w_544 w_355 w_356 w_35 w_354 (Nat.le_of_ble_eq_true rfl) dX10_estimate_39 rfl (fun v7 => ?_)
    refine q_cVI hC hnt (stk := []) (as := [.int v5, .int v7]) sX0_estimateOf (ci := 0) (by decide) rfl nX0_estimateOf rfl w_580 w_429 w_430 w_149 w_428 (Nat.le_of_ble_eq_true rfl) dX10_estimate_42 rfl (fun v8 => ?_)
    exact q_iret hC dX10_estimate_45 (Nat.le_of_ble_eq_true rfl) (Nat.le_of_ble_eq_true rfl)
  · exact c_no
theorem sX10_estimate : Snd yX10_estimate (.code yX10_estimate cX10_estimate 3 (some .int)) rmX10_estimate SX10_estimate := by
  refine Snd.of lX10_estimate (by decide +kernel) (fun _ => rfl) ?_
  intro Γ hC hnt hnm J hJ L a
  match L with
  | 0 => exact pX10_estimate_0 hC hnt J hJ a
  | L + 1 => exact c_no
/-! SpiritWall$Text.wholeWord()I -/
theorem dX7_wholeWord_0 : decode cX7_wholeWord 0 = .ok (.aload_n 0, 1) := by decide +kernel
theorem dX7_wholeWord_1 : decode cX7_wholeWord 1 = .ok (.getfield 9, 3) := by decide +kernel
theorem dX7_wholeWord_4 : decode cX7_wholeWord 4 = .ok (.ifCond .eq 12, 3) := by decide +kernel
theorem dX7_wholeWord_7 : decode cX7_wholeWord 7 = .ok (.aload_n 0, 1) := by decide +kernel
theorem dX7_wholeWord_8 : decode cX7_wholeWord 8 = .ok (.getfield 9, 3) := by decide +kernel
theorem dX7_wholeWord_11 : decode cX7_wholeWord 11 = .ok (.bipush 6, 2) := by decide +kernel
theorem dX7_wholeWord_13 : decode cX7_wholeWord 13 = .ok (.if_icmp .le 5, 3) := by decide +kernel
theorem dX7_wholeWord_16 : decode cX7_wholeWord 16 = .ok (.iconst (-1), 1) := by decide +kernel
theorem dX7_wholeWord_17 : decode cX7_wholeWord 17 = .ok (.ireturn, 1) := by decide +kernel
theorem dX7_wholeWord_18 : decode cX7_wholeWord 18 = .ok (.iconst 0, 1) := by decide +kernel
theorem dX7_wholeWord_19 : decode cX7_wholeWord 19 = .ok (.istore_n 1, 1) := by decide +kernel
theorem dX7_wholeWord_20 : decode cX7_wholeWord 20 = .ok (.iconst 0, 1) := by decide +kernel
theorem dX7_wholeWord_21 : decode cX7_wholeWord 21 = .ok (.istore_n 2, 1) := by decide +kernel
theorem dX7_wholeWord_22 : decode cX7_wholeWord 22 = .ok (.iload_n 2, 1) := by decide +kernel
theorem dX7_wholeWord_23 : decode cX7_wholeWord 23 = .ok (.aload_n 0, 1) := by decide +kernel
theorem dX7_wholeWord_24 : decode cX7_wholeWord 24 = .ok (.getfield 9, 3) := by decide +kernel
theorem dX7_wholeWord_27 : decode cX7_wholeWord 27 = .ok (.if_icmp .ge 30, 3) := by decide +kernel
theorem dX7_wholeWord_30 : decode cX7_wholeWord 30 = .ok (.aload_n 0, 1) := by decide +kernel
theorem dX7_wholeWord_31 : decode cX7_wholeWord 31 = .ok (.iload_n 2, 1) := by decide +kernel
theorem dX7_wholeWord_32 : decode cX7_wholeWord 32 = .ok (.invokevirtual 44, 3) := by decide +kernel
theorem dX7_wholeWord_35 : decode cX7_wholeWord 35 = .ok (.istore_n 3, 1) := by decide +kernel
theorem dX7_wholeWord_36 : decode cX7_wholeWord 36 = .ok (.iload_n 3, 1) := by decide +kernel
theorem dX7_wholeWord_37 : decode cX7_wholeWord 37 = .ok (.invokestatic 48, 3) := by decide +kernel
theorem dX7_wholeWord_40 : decode cX7_wholeWord 40 = .ok (.ifCond .ne 5, 3) := by decide +kernel
theorem dX7_wholeWord_43 : decode cX7_wholeWord 43 = .ok (.iconst (-1), 1) := by decide +kernel
theorem dX7_wholeWord_44 : decode cX7_wholeWord 44 = .ok (.ireturn, 1) := by decide +kernel
theorem dX7_wholeWord_45 : decode cX7_wholeWord 45 = .ok (.iload_n 1, 1) := by decide +kernel
theorem dX7_wholeWord_46 : decode cX7_wholeWord 46 = .ok (.iload_n 3, 1) := by decide +kernel
theorem dX7_wholeWord_47 : decode cX7_wholeWord 47 = .ok (.invokestatic 52, 3) := by decide +kernel
theorem dX7_wholeWord_50 : decode cX7_wholeWord 50 = .ok (.istore_n 1, 1) := by decide +kernel
theorem dX7_wholeWord_51 : decode cX7_wholeWord 51 = .ok (.iinc 2 1, 3) := by decide +kernel
theorem dX7_wholeWord_54 : decode cX7_wholeWord 54 = .ok (.goto (-32), 3) := by decide +kernel
theorem dX7_wholeWord_57 : decode cX7_wholeWord 57 = .ok (.iload_n 1, 1) := by decide +kernel
theorem dX7_wholeWord_58 : decode cX7_wholeWord 58 = .ok (.ireturn, 1) := by decide +kernel
def rmX7_wholeWord : Room := rmk 8 0 0 192
theorem nX7_wholeWord : nameOk yX7_wholeWord 0 = true := by decide +kernel
def bX7_wholeWord_0 (J : JT) : List Value → Sem
  | [.ref x0] =>
    gI 7 1 x0 fun v1 =>
    br (v1 = 0)
    (rI (-1))
    (gI 7 1 x0 fun v2 =>
    br (v2 ≤ (6 : Int32))
    (J 1 [.ref x0, .int 0, .int 0])
    (rI (-1)))
  | _ => no
def bX7_wholeWord_1 (J : JT) : List Value → Sem
  | [.ref x0, .int x1, .int x2] =>
    gI 7 1 x0 fun v1 =>
    br (v1 ≤ x2)
    (rI x1)
    (ob 7 x0 (cI SX7_byteAt [.ref x0, .int x2] fun v2 =>
    cI SX10_isLetter [.int v2] fun v3 =>
    br (v3 = 0)
    (rI (-1))
    (cI SX10_withLetter [.int x1, .int v2] fun v4 =>
    J 1 [.ref x0, .int v4, .int (x2 + 1)])))
  | _ => no
def bX7_wholeWord (J : JT) : JT := fun L a => match L with
  | 0 => bX7_wholeWord_0 J a
  | 1 => bX7_wholeWord_1 J a
  | _ => no
def SX7_wholeWord : ST := mk 4 bX7_wholeWord
def lX7_wholeWord (L : Nat) (a : List Value) : Nat × Nat × Nat × List (Nat × Value) × List Value := match L with
  | 0 => (0, 0, 0, lv_args 0 a, [])
  | 1 => (0, 0, 22, List.zip [0, 1, 2] a, [])
  | _ => (0, 0, 0, [], [])
theorem pX7_wholeWord_0 {Γ : CT} (hC : Ctx Γ "SpiritWall$Text" cX7_wholeWord 4 (some .int) rmX7_wholeWord) (hnt : NT Γ) (J : JT) (hJ : ∀ L a, Cor Γ 4 (lX7_wholeWord L a).1 (lX7_wholeWord L a).2.1 (lX7_wholeWord L a).2.2.1 (lX7_wholeWord L a).2.2.2.1 (lX7_wholeWord L a).2.2.2.2 (J L a)) (a : List Value) : Cor Γ 4 0 0 0 (lv_args 0 a) [] (bX7_wholeWord_0 J a) := by
  unfold bX7_wholeWord_0
  split
  · rename_i x0
    refine c_sub [0] rfl (loc' := [(0, .ref x0)]) ?_
    refine q_aload_n hC 0 dX7_wholeWord_0 rfl rfl ?_
    refine q_getI hC (by decide) (by decide) rfl w_2 dX7_wholeWord_1 (fun v1 => ?_)
    refine q_if_eq hC 16 dX7_wholeWord_4 rfl ?_ ?_
    · refine q_iconst hC dX7_wholeWord_16 rfl ?_
      exact q_iret hC dX7_wholeWord_17 (Nat.le_of_ble_eq_true rfl) (Nat.le_of_ble_eq_true rfl)
    · refine q_aload_n hC 0 dX7_wholeWord_7 rfl rfl ?_
      refine q_getI hC (by decide) (by decide) rfl w_2 dX7_wholeWord_8 (fun v2 => ?_)
      refine q_bipush hC (v := 6) dX7_wholeWord_11 rfl ?_
      refine q_ic_le hC 18 dX7_wholeWord_13 rfl ?_ ?_
      · refine q_iconst hC dX7_wholeWord_18 rfl ?_
        refine q_istore_nA hC (loc' := [(1, .int 0), (0, .ref x0)]) dX7_wholeWord_19 rfl (Nat.le_of_ble_eq_true rfl) rfl ?_
        refine q_iconst hC dX7_wholeWord_20 rfl ?_
        refine q_istore_nA hC (loc' := [(2, .int 0), (1, .int 0), (0, .ref x0)]) dX7_wholeWord_21 rfl (Nat.le_of_ble_eq_true rfl) rfl ?_
        exact c_sub [2, 1, 0] rfl (hJ 1 [.ref x0, .int 0, .int 0])
      · refine q_iconst hC dX7_wholeWord_16 rfl ?_
        exact q_iret hC dX7_wholeWord_17 (Nat.le_of_ble_eq_true rfl) (Nat.le_of_ble_eq_true rfl)
  · exact c_no
theorem pX7_wholeWord_1 {Γ : CT} (hC : Ctx Γ "SpiritWall$Text" cX7_wholeWord 4 (some .int) rmX7_wholeWord) (hnt : NT Γ) (J : JT) (hJ : ∀ L a, Cor Γ 4 (lX7_wholeWord L a).1 (lX7_wholeWord L a).2.1 (lX7_wholeWord L a).2.2.1 (lX7_wholeWord L a).2.2.2.1 (lX7_wholeWord L a).2.2.2.2 (J L a)) (a : List Value) : Cor Γ 4 0 0 22 (List.zip [0, 1, 2] a) [] (bX7_wholeWord_1 J a) := by
  unfold bX7_wholeWord_1
  split
  · rename_i x0 x1 x2
    refine c_sub [0, 1, 2] rfl (loc' := [(0, .ref x0), (1, .int x1), (2, .int x2)]) ?_
    refine q_iload_n hC 2 dX7_wholeWord_22 rfl rfl ?_
    refine q_aload_n hC 0 dX7_wholeWord_23 rfl rfl ?_
    refine q_getI hC (by decide) (by decide) rfl w_2 dX7_wholeWord_24 (fun v1 => ?_)
    refine q_ic_ge hC 57 dX7_wholeWord_27 rfl ?_ ?_
    · refine q_iload_n hC 1 dX7_wholeWord_57 rfl rfl ?_
      exact q_iret hC dX7_wholeWord_58 (Nat.le_of_ble_eq_true rfl) (Nat.le_of_ble_eq_true rfl)
    · refine q_aload_n hC 0 dX7_wholeWord_30 rfl rfl ?_
      refine q_iload_n hC 2 dX7_wholeWord_31 rfl rfl ?_
      refine q_cVI hC hnt (stk := []) (as := [.int x2]) sX7_byteAt (ci := 7) (by decide) rfl nX7_byteAt rfl w_581 w_218 w_219 w_127 w_217 (Nat.le_of_ble_eq_true rfl) dX7_wholeWord_32 rfl (fun v2 => ?_)
      refine q_istore_nA hC (loc' := [(3, .int v2), (0, .ref x0), (1, .int x1), (2, .int x2)]) dX7_wholeWord_35 rfl (Nat.le_of_ble_eq_true rfl) rfl ?_
      refine q_iload_n hC 0 dX7_wholeWord_36 rfl rfl ?_
      refine q_cNI hC hnt (stk := []) (as := [.int v2]) sX10_isLetter nX10_isLetter rfl w_582 w_208 w_27 w_207 (Nat.le_of_ble_eq_true rfl) dX7_wholeWord_37 rfl (fun v3 => ?_)
      refine q_if_ne hC 45 dX7_wholeWord_40 rfl ?_ ?_
      · refine q_iload_n hC 2 dX7_wholeWord_45 rfl rfl ?_
        refine q_iload_n hC 0 dX7_wholeWord_46 rfl rfl ?_
        refine q_cNI hC hnt (stk := []) (as := [.int x1, .int v2]) sX10_withLetter nX10_withLetter rfl w_583 w_49 w_27 w_48 (Nat.le_of_ble_eq_true rfl) dX7_wholeWord_47 rfl (fun v4 => ?_)
        refine q_istore_nA hC (loc' := [(1, .int v4), (3, .int v2), (0, .ref x0), (2, .int x2)]) dX7_wholeWord_50 rfl (Nat.le_of_ble_eq_true rfl) rfl ?_
        refine q_iincA hC (loc' := [(2, .int (x2 + 1)), (1, .int v4), (3, .int v2), (0, .ref x0)]) 3 1 dX7_wholeWord_51 rfl rfl (Nat.le_of_ble_eq_true rfl) rfl ?_
        refine q_goto hC 22 dX7_wholeWord_54 rfl ?_
        exact c_sub [3, 1, 0] rfl (hJ 1 [.ref x0, .int v4, .int (x2 + 1)])
      · refine q_iconst hC dX7_wholeWord_43 rfl ?_
        exact q_iret hC dX7_wholeWord_44 (Nat.le_of_ble_eq_true rfl) (Nat.le_of_ble_eq_true rfl)
  · exact c_no
theorem sX7_wholeWord : Snd yX7_wholeWord (.code yX7_wholeWord cX7_wholeWord 4 (some .int)) rmX7_wholeWord SX7_wholeWord := by
  refine Snd.of lX7_wholeWord (by decide +kernel) (fun _ => rfl) ?_
  intro Γ hC hnt hnm J hJ L a
  match L with
  | 0 => exact pX7_wholeWord_0 hC hnt J hJ a
  | 1 => exact pX7_wholeWord_1 hC hnt J hJ a
  | L + 2 => exact c_no
/-! SpiritWall.find()I -/
theorem dX10_find_0 : decode cX10_find 0 = .ok (.aload_n 0, 1) := by decide +kernel
theorem dX10_find_1 : decode cX10_find 1 = .ok (.getfield 24, 3) := by decide +kernel
theorem dX10_find_4 : decode cX10_find 4 = .ok (.aload_n 0, 1) := by decide +kernel
theorem dX10_find_5 : decode cX10_find 5 = .ok (.getfield 14, 3) := by decide +kernel
theorem dX10_find_8 : decode cX10_find 8 = .ok (.invokevirtual 180, 3) := by decide +kernel
theorem dX10_find_11 : decode cX10_find 11 = .ok (.invokevirtual 183, 3) := by decide +kernel
theorem dX10_find_14 : decode cX10_find 14 = .ok (.istore_n 1, 1) := by decide +kernel
theorem dX10_find_15 : decode cX10_find 15 = .ok (.aload_n 0, 1) := by decide +kernel
theorem dX10_find_16 : decode cX10_find 16 = .ok (.getfield 14, 3) := by decide +kernel
theorem dX10_find_19 : decode cX10_find 19 = .ok (.iconst 0, 1) := by decide +kernel
theorem dX10_find_20 : decode cX10_find 20 = .ok (.putfield 102, 3) := by decide +kernel
theorem dX10_find_23 : decode cX10_find 23 = .ok (.iload_n 1, 1) := by decide +kernel
theorem dX10_find_24 : decode cX10_find 24 = .ok (.ireturn, 1) := by decide +kernel
def rmX10_find : Room := rmk 9 0 0 215
theorem nX10_find : nameOk yX10_find 0 = true := by decide +kernel
def bX10_find_0 (J : JT) : List Value → Sem
  | [.ref x0] =>
    gR 10 2 x0 fun r1 =>
    gR 10 0 x0 fun r2 =>
    ob 7 r2 (cI SX7_wholeWord [.ref r2] fun v3 =>
    ob 9 r1 (cI SX9_named [.ref r1, .int v3] fun v4 =>
    gR 10 0 x0 fun r5 =>
    pI 7 1 r5 0 <|
    rI v4))
  | _ => no
def bX10_find (J : JT) : JT := fun L a => match L with
  | 0 => bX10_find_0 J a
  | _ => no
def SX10_find : ST := mk 2 bX10_find
def lX10_find (L : Nat) (a : List Value) : Nat × Nat × Nat × List (Nat × Value) × List Value := match L with
  | 0 => (0, 0, 0, lv_args 0 a, [])
  | _ => (0, 0, 0, [], [])
theorem pX10_find_0 {Γ : CT} (hC : Ctx Γ "SpiritWall" cX10_find 2 (some .int) rmX10_find) (hnt : NT Γ) (J : JT) (hJ : ∀ L a, Cor Γ 2 (lX10_find L a).1 (lX10_find L a).2.1 (lX10_find L a).2.2.1 (lX10_find L a).2.2.2.1 (lX10_find L a).2.2.2.2 (J L a)) (a : List Value) : Cor Γ 2 0 0 0 (lv_args 0 a) [] (bX10_find_0 J a) := by
  unfold bX10_find_0
  split
  · rename_i x0
    refine c_sub [0] rfl (loc' := [(0, .ref x0)]) ?_
    refine q_aload_n hC 0 dX10_find_0 rfl rfl ?_
    refine q_getR hC (by decide) (by decide) rfl w_131 dX10_find_1 (fun r1 => ?_)
    refine q_aload_n hC 0 dX10_find_4 rfl rfl ?_
    refine q_getR hC (by decide) (by decide) rfl w_128 dX10_find_5 (fun r2 => ?_)
    refine q_cVI hC hnt (stk := [.ref r1]) (as := []) sX7_wholeWord (ci := 7) (by decide) rfl nX7_wholeWord rfl w_584 w_586 w_587 w_127 w_585 (Nat.le_of_ble_eq_true rfl) dX10_find_8 rfl (fun v3 => ?_)
    refine q_cVI hC hnt (stk := []) (as := [.int v3]) sX9_named (ci := 9) (by decide) rfl nX9_named rfl w_588 w_255 w_256 w_65 w_254 (Nat.le_of_ble_eq_true rfl) dX10_find_11 rfl (fun v4 => ?_)
    refine q_istore_nA hC (loc' := [(1, .int v4), (0, .ref x0)]) dX10_find_14 rfl (Nat.le_of_ble_eq_true rfl) rfl ?_
    refine q_aload_n hC 1 dX10_find_15 rfl rfl ?_
    refine q_getR hC (by decide) (by decide) rfl w_128 dX10_find_16 (fun r5 => ?_)
    refine q_iconst hC dX10_find_19 rfl ?_
    refine q_putI hC (by decide) (by decide) rfl rfl w_192 dX10_find_20 ?_
    refine q_iload_n hC 0 dX10_find_23 rfl rfl ?_
    exact q_iret hC dX10_find_24 (Nat.le_of_ble_eq_true rfl) (Nat.le_of_ble_eq_true rfl)
  · exact c_no
theorem sX10_find : Snd yX10_find (.code yX10_find cX10_find 2 (some .int)) rmX10_find SX10_find := by
  refine Snd.of lX10_find (by decide +kernel) (fun _ => rfl) ?_
  intro Γ hC hnt hnm J hJ L a
  match L with
  | 0 => exact pX10_find_0 hC hnt J hJ a
  | L + 1 => exact c_no
/-! SpiritWall$Edges.otherEnd(II)I -/
theorem dX0_otherEnd_0 : decode cX0_otherEnd 0 = .ok (.aload_n 0, 1) := by decide +kernel
theorem dX0_otherEnd_1 : decode cX0_otherEnd 1 = .ok (.getfield 31, 3) := by decide +kernel
theorem dX0_otherEnd_4 : decode cX0_otherEnd 4 = .ok (.iload_n 1, 1) := by decide +kernel
theorem dX0_otherEnd_5 : decode cX0_otherEnd 5 = .ok (.invokestatic 102, 3) := by decide +kernel
theorem dX0_otherEnd_8 : decode cX0_otherEnd 8 = .ok (.iload_n 2, 1) := by decide +kernel
theorem dX0_otherEnd_9 : decode cX0_otherEnd 9 = .ok (.if_icmp .ne 12, 3) := by decide +kernel
theorem dX0_otherEnd_12 : decode cX0_otherEnd 12 = .ok (.aload_n 0, 1) := by decide +kernel
theorem dX0_otherEnd_13 : decode cX0_otherEnd 13 = .ok (.getfield 34, 3) := by decide +kernel
theorem dX0_otherEnd_16 : decode cX0_otherEnd 16 = .ok (.iload_n 1, 1) := by decide +kernel
theorem dX0_otherEnd_17 : decode cX0_otherEnd 17 = .ok (.invokestatic 102, 3) := by decide +kernel
theorem dX0_otherEnd_20 : decode cX0_otherEnd 20 = .ok (.ireturn, 1) := by decide +kernel
theorem dX0_otherEnd_21 : decode cX0_otherEnd 21 = .ok (.aload_n 0, 1) := by decide +kernel
theorem dX0_otherEnd_22 : decode cX0_otherEnd 22 = .ok (.getfield 34, 3) := by decide +kernel
theorem dX0_otherEnd_25 : decode cX0_otherEnd 25 = .ok (.iload_n 1, 1) := by decide +kernel
theorem dX0_otherEnd_26 : decode cX0_otherEnd 26 = .ok (.invokestatic 102, 3) := by decide +kernel
theorem dX0_otherEnd_29 : decode cX0_otherEnd 29 = .ok (.iload_n 2, 1) := by decide +kernel
theorem dX0_otherEnd_30 : decode cX0_otherEnd 30 = .ok (.if_icmp .ne 14, 3) := by decide +kernel
theorem dX0_otherEnd_33 : decode cX0_otherEnd 33 = .ok (.aload_n 0, 1) := by decide +kernel
theorem dX0_otherEnd_34 : decode cX0_otherEnd 34 = .ok (.getfield 31, 3) := by decide +kernel
theorem dX0_otherEnd_37 : decode cX0_otherEnd 37 = .ok (.iload_n 1, 1) := by decide +kernel
theorem dX0_otherEnd_38 : decode cX0_otherEnd 38 = .ok (.invokestatic 102, 3) := by decide +kernel
theorem dX0_otherEnd_41 : decode cX0_otherEnd 41 = .ok (.goto 4, 3) := by decide +kernel
theorem dX0_otherEnd_44 : decode cX0_otherEnd 44 = .ok (.iconst (-1), 1) := by decide +kernel
theorem dX0_otherEnd_45 : decode cX0_otherEnd 45 = .ok (.ireturn, 1) := by decide +kernel
def rmX0_otherEnd : Room := rmk 7 0 0 171
theorem nX0_otherEnd : nameOk yX0_otherEnd 2 = true := by decide +kernel
def bX0_otherEnd_0 (J : JT) : List Value → Sem
  | [.ref x0, .int x1, .int x2] =>
    gR 0 8 x0 fun r1 =>
    cI SX10_cell [.ref r1, .int x1] fun v2 =>
    br (v2 = x2)
    (gR 0 9 x0 fun r7 =>
    cI SX10_cell [.ref r7, .int x1] fun v8 =>
    rI v8)
    (gR 0 9 x0 fun r3 =>
    cI SX10_cell [.ref r3, .int x1] fun v4 =>
    br (v4 = x2)
    (gR 0 8 x0 fun r5 =>
    cI SX10_cell [.ref r5, .int x1] fun v6 =>
    rI v6)
    (rI (-1)))
  | _ => no
def bX0_otherEnd (J : JT) : JT := fun L a => match L with
  | 0 => bX0_otherEnd_0 J a
  | _ => no
def SX0_otherEnd : ST := mk 3 bX0_otherEnd
def lX0_otherEnd (L : Nat) (a : List Value) : Nat × Nat × Nat × List (Nat × Value) × List Value := match L with
  | 0 => (0, 0, 0, lv_args 0 a, [])
  | _ => (0, 0, 0, [], [])
theorem pX0_otherEnd_0 {Γ : CT} (hC : Ctx Γ "SpiritWall$Edges" cX0_otherEnd 3 (some .int) rmX0_otherEnd) (hnt : NT Γ) (J : JT) (hJ : ∀ L a, Cor Γ 3 (lX0_otherEnd L a).1 (lX0_otherEnd L a).2.1 (lX0_otherEnd L a).2.2.1 (lX0_otherEnd L a).2.2.2.1 (lX0_otherEnd L a).2.2.2.2 (J L a)) (a : List Value) : Cor Γ 3 0 0 0 (lv_args 0 a) [] (bX0_otherEnd_0 J a) := by
  unfold bX0_otherEnd_0
  split
  · rename_i x0 x1 x2
    refine c_sub [0, 1, 2] rfl (loc' := [(0, .ref x0), (1, .int x1), (2, .int x2)]) ?_
    refine q_aload_n hC 0 dX0_otherEnd_0 rfl rfl ?_
    refine q_getR hC (by decide) (by decide) rfl w_90 dX0_otherEnd_1 (fun r1 => ?_)
    refine q_iload_n hC 1 dX0_otherEnd_4 rfl rfl ?_
    refine q_cNI hC hnt (stk := []) (as := [.ref r1, .int x1]) sX10_cell nX10_cell rfl w_352 w_202 w_27 w_201 (Nat.le_of_ble_eq_true rfl) dX0_otherEnd_5 rfl (fun v2 => ?_)
    refine q_iload_n hC 2 dX0_otherEnd_8 rfl rfl ?_
    refine q_ic_ne hC 21 dX0_otherEnd_9 rfl ?_ ?_
    · refine q_aload_n hC 0 dX0_otherEnd_21 rfl rfl ?_
      refine q_getR hC (by decide) (by decide) rfl w_91 dX0_otherEnd_22 (fun r3 => ?_)
      refine q_iload_n hC 1 dX0_otherEnd_25 rfl rfl ?_
      refine q_cNI hC hnt (stk := []) (as := [.ref r3, .int x1]) sX10_cell nX10_cell rfl w_352 w_202 w_27 w_201 (Nat.le_of_ble_eq_true rfl) dX0_otherEnd_26 rfl (fun v4 => ?_)
      refine q_iload_n hC 2 dX0_otherEnd_29 rfl rfl ?_
      refine q_ic_ne hC 44 dX0_otherEnd_30 rfl ?_ ?_
      · refine q_iconst hC dX0_otherEnd_44 rfl ?_
        exact q_iret hC dX0_otherEnd_45 (Nat.le_of_ble_eq_true rfl) (Nat.le_of_ble_eq_true rfl)
      · refine q_aload_n hC 0 dX0_otherEnd_33 rfl rfl ?_
        refine q_getR hC (by decide) (by decide) rfl w_90 dX0_otherEnd_34 (fun r5 => ?_)
        refine q_iload_n hC 1 dX0_otherEnd_37 rfl rfl ?_
        refine q_cNI hC hnt (stk := []) (as := [.ref r5, .int x1]) sX10_cell nX10_cell rfl w_352 w_202 w_27 w_201 (Nat.le_of_ble_eq_true rfl) dX0_otherEnd_38 rfl (fun v6 => ?_)
        refine q_goto hC 45 dX0_otherEnd_41 rfl ?_
        exact q_iret hC dX0_otherEnd_45 (Nat.le_of_ble_eq_true rfl) (Nat.le_of_ble_eq_true rfl)
    · refine q_aload_n hC 0 dX0_otherEnd_12 rfl rfl ?_
      refine q_getR hC (by decide) (by decide) rfl w_91 dX0_otherEnd_13 (fun r7 => ?_)
      refine q_iload_n hC 1 dX0_otherEnd_16 rfl rfl ?_
      refine q_cNI hC hnt (stk := []) (as := [.ref r7, .int x1]) sX10_cell nX10_cell rfl w_352 w_202 w_27 w_201 (Nat.le_of_ble_eq_true rfl) dX0_otherEnd_17 rfl (fun v8 => ?_)
      exact q_iret hC dX0_otherEnd_20 (Nat.le_of_ble_eq_true rfl) (Nat.le_of_ble_eq_true rfl)
  · exact c_no
theorem sX0_otherEnd : Snd yX0_otherEnd (.code yX0_otherEnd cX0_otherEnd 3 (some .int)) rmX0_otherEnd SX0_otherEnd := by
  refine Snd.of lX0_otherEnd (by decide +kernel) (fun _ => rfl) ?_
  intro Γ hC hnt hnm J hJ L a
  match L with
  | 0 => exact pX0_otherEnd_0 hC hnt J hJ a
  | L + 1 => exact c_no
/-! SpiritWall$Edges.edgesAt(I)I -/
theorem dX0_edgesAt_0 : decode cX0_edgesAt 0 = .ok (.iconst 0, 1) := by decide +kernel
theorem dX0_edgesAt_1 : decode cX0_edgesAt 1 = .ok (.istore_n 2, 1) := by decide +kernel
theorem dX0_edgesAt_2 : decode cX0_edgesAt 2 = .ok (.iconst 0, 1) := by decide +kernel
theorem dX0_edgesAt_3 : decode cX0_edgesAt 3 = .ok (.istore_n 3, 1) := by decide +kernel
theorem dX0_edgesAt_4 : decode cX0_edgesAt 4 = .ok (.iload_n 3, 1) := by decide +kernel
theorem dX0_edgesAt_5 : decode cX0_edgesAt 5 = .ok (.aload_n 0, 1) := by decide +kernel
theorem dX0_edgesAt_6 : decode cX0_edgesAt 6 = .ok (.getfield 15, 3) := by decide +kernel
theorem dX0_edgesAt_9 : decode cX0_edgesAt 9 = .ok (.if_icmp .ge 22, 3) := by decide +kernel
theorem dX0_edgesAt_12 : decode cX0_edgesAt 12 = .ok (.aload_n 0, 1) := by decide +kernel
theorem dX0_edgesAt_13 : decode cX0_edgesAt 13 = .ok (.iload_n 3, 1) := by decide +kernel
theorem dX0_edgesAt_14 : decode cX0_edgesAt 14 = .ok (.iload_n 1, 1) := by decide +kernel
theorem dX0_edgesAt_15 : decode cX0_edgesAt 15 = .ok (.invokevirtual 198, 3) := by decide +kernel
theorem dX0_edgesAt_18 : decode cX0_edgesAt 18 = .ok (.iconst (-1), 1) := by decide +kernel
theorem dX0_edgesAt_19 : decode cX0_edgesAt 19 = .ok (.if_icmp .eq 6, 3) := by decide +kernel
theorem dX0_edgesAt_22 : decode cX0_edgesAt 22 = .ok (.iinc 2 1, 3) := by decide +kernel
theorem dX0_edgesAt_25 : decode cX0_edgesAt 25 = .ok (.iinc 3 1, 3) := by decide +kernel
theorem dX0_edgesAt_28 : decode cX0_edgesAt 28 = .ok (.goto (-24), 3) := by decide +kernel
theorem dX0_edgesAt_31 : decode cX0_edgesAt 31 = .ok (.iload_n 2, 1) := by decide +kernel
theorem dX0_edgesAt_32 : decode cX0_edgesAt 32 = .ok (.ireturn, 1) := by decide +kernel
def rmX0_edgesAt : Room := rmk 8 0 0 193
theorem nX0_edgesAt : nameOk yX0_edgesAt 1 = true := by decide +kernel
def bX0_edgesAt_0 (J : JT) : List Value → Sem
  | [.ref x0, .int x1] =>
    J 1 [.ref x0, .int x1, .int 0, .int 0]
  | _ => no
def bX0_edgesAt_1 (J : JT) : List Value → Sem
  | [.ref x0, .int x1, .int x2, .int x3] =>
    gI 0 3 x0 fun v1 =>
    br (v1 ≤ x3)
    (rI x2)
    (ob 0 x0 (cI SX0_otherEnd [.ref x0, .int x3, .int x1] fun v2 =>
    br (v2 = ((-1) : Int32))
    (J 1 [.ref x0, .int x1, .int x2, .int (x3 + 1)])
    (J 1 [.ref x0, .int x1, .int (x2 + 1), .int (x3 + 1)])))
  | _ => no
def bX0_edgesAt (J : JT) : JT := fun L a => match L with
  | 0 => bX0_edgesAt_0 J a
  | 1 => bX0_edgesAt_1 J a
  | _ => no
def SX0_edgesAt : ST := mk 4 bX0_edgesAt
def lX0_edgesAt (L : Nat) (a : List Value) : Nat × Nat × Nat × List (Nat × Value) × List Value := match L with
  | 0 => (0, 0, 0, lv_args 0 a, [])
  | 1 => (0, 0, 4, List.zip [0, 1, 2, 3] a, [])
  | _ => (0, 0, 0, [], [])
theorem pX0_edgesAt_0 {Γ : CT} (hC : Ctx Γ "SpiritWall$Edges" cX0_edgesAt 4 (some .int) rmX0_edgesAt) (hnt : NT Γ) (J : JT) (hJ : ∀ L a, Cor Γ 4 (lX0_edgesAt L a).1 (lX0_edgesAt L a).2.1 (lX0_edgesAt L a).2.2.1 (lX0_edgesAt L a).2.2.2.1 (lX0_edgesAt L a).2.2.2.2 (J L a)) (a : List Value) : Cor Γ 4 0 0 0 (lv_args 0 a) [] (bX0_edgesAt_0 J a) := by
  unfold bX0_edgesAt_0
  split
  · rename_i x0 x1
    refine c_sub [0, 1] rfl (loc' := [(0, .ref x0), (1, .int x1)]) ?_
    refine q_iconst hC dX0_edgesAt_0 rfl ?_
    refine q_istore_nA hC (loc' := [(2, .int 0), (0, .ref x0), (1, .int x1)]) dX0_edgesAt_1 rfl (Nat.le_of_ble_eq_true rfl) rfl ?_
    refine q_iconst hC dX0_edgesAt_2 rfl ?_
    refine q_istore_nA hC (loc' := [(3, .int 0), (2, .int 0), (0, .ref x0), (1, .int x1)]) dX0_edgesAt_3 rfl (Nat.le_of_ble_eq_true rfl) rfl ?_
    exact c_sub [2, 3, 1, 0] rfl (hJ 1 [.ref x0, .int x1, .int 0, .int 0])
  · exact c_no
theorem pX0_edgesAt_1 {Γ : CT} (hC : Ctx Γ "SpiritWall$Edges" cX0_edgesAt 4 (some .int) rmX0_edgesAt) (hnt : NT Γ) (J : JT) (hJ : ∀ L a, Cor Γ 4 (lX0_edgesAt L a).1 (lX0_edgesAt L a).2.1 (lX0_edgesAt L a).2.2.1 (lX0_edgesAt L a).2.2.2.1 (lX0_edgesAt L a).2.2.2.2 (J L a)) (a : List Value) : Cor Γ 4 0 0 4 (List.zip [0, 1, 2, 3] a) [] (bX0_edgesAt_1 J a) := by
  unfold bX0_edgesAt_1
  split
  · rename_i x0 x1 x2 x3
    refine c_sub [0, 1, 2, 3] rfl (loc' := [(0, .ref x0), (1, .int x1), (2, .int x2), (3, .int x3)]) ?_
    refine q_iload_n hC 3 dX0_edgesAt_4 rfl rfl ?_
    refine q_aload_n hC 0 dX0_edgesAt_5 rfl rfl ?_
    refine q_getI hC (by decide) (by decide) rfl w_85 dX0_edgesAt_6 (fun v1 => ?_)
    refine q_ic_ge hC 31 dX0_edgesAt_9 rfl ?_ ?_
    · refine q_iload_n hC 2 dX0_edgesAt_31 rfl rfl ?_
      exact q_iret hC dX0_edgesAt_32 (Nat.le_of_ble_eq_true rfl) (Nat.le_of_ble_eq_true rfl)
    · refine q_aload_n hC 0 dX0_edgesAt_12 rfl rfl ?_
      refine q_iload_n hC 3 dX0_edgesAt_13 rfl rfl ?_
      refine q_iload_n hC 1 dX0_edgesAt_14 rfl rfl ?_
      refine q_cVI hC hnt (stk := []) (as := [.int x3, .int x1]) sX0_otherEnd (ci := 0) (by decide) rfl nX0_otherEnd rfl w_589 w_591 w_592 w_149 w_590 (Nat.le_of_ble_eq_true rfl) dX0_edgesAt_15 rfl (fun v2 => ?_)
      refine q_iconst hC dX0_edgesAt_18 rfl ?_
      refine q_ic_eq hC 25 dX0_edgesAt_19 rfl ?_ ?_
      · refine q_iincA hC (loc' := [(3, .int (x3 + 1)), (0, .ref x0), (1, .int x1), (2, .int x2)]) 3 1 dX0_edgesAt_25 rfl rfl (Nat.le_of_ble_eq_true rfl) rfl ?_
        refine q_goto hC 4 dX0_edgesAt_28 rfl ?_
        exact c_sub [1, 2, 3, 0] rfl (hJ 1 [.ref x0, .int x1, .int x2, .int (x3 + 1)])
      · refine q_iincA hC (loc' := [(2, .int (x2 + 1)), (0, .ref x0), (1, .int x1), (3, .int x3)]) 2 1 dX0_edgesAt_22 rfl rfl (Nat.le_of_ble_eq_true rfl) rfl ?_
        refine q_iincA hC (loc' := [(3, .int (x3 + 1)), (2, .int (x2 + 1)), (0, .ref x0), (1, .int x1)]) 3 1 dX0_edgesAt_25 rfl rfl (Nat.le_of_ble_eq_true rfl) rfl ?_
        refine q_goto hC 4 dX0_edgesAt_28 rfl ?_
        exact c_sub [2, 3, 1, 0] rfl (hJ 1 [.ref x0, .int x1, .int (x2 + 1), .int (x3 + 1)])
  · exact c_no
theorem sX0_edgesAt : Snd yX0_edgesAt (.code yX0_edgesAt cX0_edgesAt 4 (some .int)) rmX0_edgesAt SX0_edgesAt := by
  refine Snd.of lX0_edgesAt (by decide +kernel) (fun _ => rfl) ?_
  intro Γ hC hnt hnm J hJ L a
  match L with
  | 0 => exact pX0_edgesAt_0 hC hnt J hJ a
  | 1 => exact pX0_edgesAt_1 hC hnt J hJ a
  | L + 2 => exact c_no
/-! SpiritWall$State.sightsAt(IZ)I -/
theorem dX6_sightsAt_0 : decode cX6_sightsAt 0 = .ok (.iconst 0, 1) := by decide +kernel
theorem dX6_sightsAt_1 : decode cX6_sightsAt 1 = .ok (.istore_n 3, 1) := by decide +kernel
theorem dX6_sightsAt_2 : decode cX6_sightsAt 2 = .ok (.iconst 0, 1) := by decide +kernel
theorem dX6_sightsAt_3 : decode cX6_sightsAt 3 = .ok (.istore 4, 2) := by decide +kernel
theorem dX6_sightsAt_5 : decode cX6_sightsAt 5 = .ok (.iload 4, 2) := by decide +kernel
theorem dX6_sightsAt_7 : decode cX6_sightsAt 7 = .ok (.aload_n 0, 1) := by decide +kernel
theorem dX6_sightsAt_8 : decode cX6_sightsAt 8 = .ok (.getfield 32, 3) := by decide +kernel
theorem dX6_sightsAt_11 : decode cX6_sightsAt 11 = .ok (.if_icmp .ge 63, 3) := by decide +kernel
theorem dX6_sightsAt_14 : decode cX6_sightsAt 14 = .ok (.aload_n 0, 1) := by decide +kernel
theorem dX6_sightsAt_15 : decode cX6_sightsAt 15 = .ok (.getfield 35, 3) := by decide +kernel
theorem dX6_sightsAt_18 : decode cX6_sightsAt 18 = .ok (.iload 4, 2) := by decide +kernel
theorem dX6_sightsAt_20 : decode cX6_sightsAt 20 = .ok (.invokestatic 64, 3) := by decide +kernel
theorem dX6_sightsAt_23 : decode cX6_sightsAt 23 = .ok (.iload_n 1, 1) := by decide +kernel
theorem dX6_sightsAt_24 : decode cX6_sightsAt 24 = .ok (.if_icmp .eq 16, 3) := by decide +kernel
theorem dX6_sightsAt_27 : decode cX6_sightsAt 27 = .ok (.aload_n 0, 1) := by decide +kernel
theorem dX6_sightsAt_28 : decode cX6_sightsAt 28 = .ok (.getfield 38, 3) := by decide +kernel
theorem dX6_sightsAt_31 : decode cX6_sightsAt 31 = .ok (.iload 4, 2) := by decide +kernel
theorem dX6_sightsAt_33 : decode cX6_sightsAt 33 = .ok (.invokestatic 64, 3) := by decide +kernel
theorem dX6_sightsAt_36 : decode cX6_sightsAt 36 = .ok (.iload_n 1, 1) := by decide +kernel
theorem dX6_sightsAt_37 : decode cX6_sightsAt 37 = .ok (.if_icmp .ne 7, 3) := by decide +kernel
theorem dX6_sightsAt_40 : decode cX6_sightsAt 40 = .ok (.iconst 1, 1) := by decide +kernel
theorem dX6_sightsAt_41 : decode cX6_sightsAt 41 = .ok (.goto 4, 3) := by decide +kernel
theorem dX6_sightsAt_44 : decode cX6_sightsAt 44 = .ok (.iconst 0, 1) := by decide +kernel
theorem dX6_sightsAt_45 : decode cX6_sightsAt 45 = .ok (.istore 5, 2) := by decide +kernel
theorem dX6_sightsAt_47 : decode cX6_sightsAt 47 = .ok (.iload 5, 2) := by decide +kernel
theorem dX6_sightsAt_49 : decode cX6_sightsAt 49 = .ok (.ifCond .eq 19, 3) := by decide +kernel
theorem dX6_sightsAt_52 : decode cX6_sightsAt 52 = .ok (.iload_n 2, 1) := by decide +kernel
theorem dX6_sightsAt_53 : decode cX6_sightsAt 53 = .ok (.ifCond .ne 12, 3) := by decide +kernel
theorem dX6_sightsAt_56 : decode cX6_sightsAt 56 = .ok (.aload_n 0, 1) := by decide +kernel
theorem dX6_sightsAt_57 : decode cX6_sightsAt 57 = .ok (.iload 4, 2) := by decide +kernel
theorem dX6_sightsAt_59 : decode cX6_sightsAt 59 = .ok (.invokevirtual 84, 3) := by decide +kernel
theorem dX6_sightsAt_62 : decode cX6_sightsAt 62 = .ok (.ifCond .eq 6, 3) := by decide +kernel
theorem dX6_sightsAt_65 : decode cX6_sightsAt 65 = .ok (.iinc 3 1, 3) := by decide +kernel
theorem dX6_sightsAt_68 : decode cX6_sightsAt 68 = .ok (.iinc 4 1, 3) := by decide +kernel
theorem dX6_sightsAt_71 : decode cX6_sightsAt 71 = .ok (.goto (-66), 3) := by decide +kernel
theorem dX6_sightsAt_74 : decode cX6_sightsAt 74 = .ok (.iload_n 3, 1) := by decide +kernel
theorem dX6_sightsAt_75 : decode cX6_sightsAt 75 = .ok (.ireturn, 1) := by decide +kernel
def rmX6_sightsAt : Room := rmk 8 0 0 192
theorem nX6_sightsAt : nameOk yX6_sightsAt 2 = true := by decide +kernel
def bX6_sightsAt_0 (J : JT) : List Value → Sem
  | [.ref x0, .int x1, .int x2] =>
    J 1 [.ref x0, .int x1, .int x2, .int 0, .int 0]
  | _ => no
def bX6_sightsAt_1 (J : JT) : List Value → Sem
  | [.ref x0, .int x1, .int x2, .int x3, .int x4] =>
    gI 6 6 x0 fun v1 =>
    br (v1 ≤ x4)
    (rI x3)
    (gR 6 7 x0 fun r2 =>
    cI SX10_cell [.ref r2, .int x4] fun v3 =>
    br (v3 = x1)
    (J 2 [.ref x0, .int x1, .int x2, .int x3, .int x4])
    (gR 6 8 x0 fun r4 =>
    cI SX10_cell [.ref r4, .int x4] fun v5 =>
    br (v5 = x1)
    (J 2 [.ref x0, .int x1, .int x2, .int x3, .int x4])
    (br ((0 : Int32) = 0)
    (J 1 [.ref x0, .int x1, .int x2, .int x3, .int (x4 + 1)])
    (br (x2 = 0)
    (ob 6 x0 (cI SX6_counts [.ref x0, .int x4] fun v6 =>
    br (v6 = 0)
    (J 1 [.ref x0, .int x1, .int x2, .int x3, .int (x4 + 1)])
    (J 1 [.ref x0, .int x1, .int x2, .int (x3 + 1), .int (x4 + 1)])))
    (J 1 [.ref x0, .int x1, .int x2, .int (x3 + 1), .int (x4 + 1)])))))
  | _ => no
def bX6_sightsAt_2 (J : JT) : List Value → Sem
  | [.ref x0, .int x1, .int x2, .int x3, .int x4] =>
    br ((1 : Int32) = 0)
    (J 1 [.ref x0, .int x1, .int x2, .int x3, .int (x4 + 1)])
    (br (x2 = 0)
    (ob 6 x0 (cI SX6_counts [.ref x0, .int x4] fun v1 =>
    br (v1 = 0)
    (J 1 [.ref x0, .int x1, .int x2, .int x3, .int (x4 + 1)])
    (J 1 [.ref x0, .int x1, .int x2, .int (x3 + 1), .int (x4 + 1)])))
    (J 1 [.ref x0, .int x1, .int x2, .int (x3 + 1), .int (x4 + 1)]))
  | _ => no
def bX6_sightsAt (J : JT) : JT := fun L a => match L with
  | 0 => bX6_sightsAt_0 J a
  | 1 => bX6_sightsAt_1 J a
  | 2 => bX6_sightsAt_2 J a
  | _ => no
def SX6_sightsAt : ST := mk 6 bX6_sightsAt
def lX6_sightsAt (L : Nat) (a : List Value) : Nat × Nat × Nat × List (Nat × Value) × List Value := match L with
  | 0 => (0, 0, 0, lv_args 0 a, [])
  | 1 => (0, 0, 5, List.zip [0, 1, 2, 3, 4] a, [])
  | 2 => (0, 0, 40, List.zip [0, 1, 2, 3, 4] a, [])
  | _ => (0, 0, 0, [], [])
theorem pX6_sightsAt_0 {Γ : CT} (hC : Ctx Γ "SpiritWall$State" cX6_sightsAt 6 (some .int) rmX6_sightsAt) (hnt : NT Γ) (J : JT) (hJ : ∀ L a, Cor Γ 6 (lX6_sightsAt L a).1 (lX6_sightsAt L a).2.1 (lX6_sightsAt L a).2.2.1 (lX6_sightsAt L a).2.2.2.1 (lX6_sightsAt L a).2.2.2.2 (J L a)) (a : List Value) : Cor Γ 6 0 0 0 (lv_args 0 a) [] (bX6_sightsAt_0 J a) := by
  unfold bX6_sightsAt_0
  split
  · rename_i x0 x1 x2
    refine c_sub [0, 1, 2] rfl (loc' := [(0, .ref x0), (1, .int x1), (2, .int x2)]) ?_
    refine q_iconst hC dX6_sightsAt_0 rfl ?_
    refine q_istore_nA hC (loc' := [(3, .int 0), (0, .ref x0), (1, .int x1), (2, .int x2)]) dX6_sightsAt_1 rfl (Nat.le_of_ble_eq_true rfl) rfl ?_
    refine q_iconst hC dX6_sightsAt_2 rfl ?_
    refine q_istoreA hC (loc' := [(4, .int 0), (3, .int 0), (0, .ref x0), (1, .int x1), (2, .int x2)]) dX6_sightsAt_3 (Nat.le_of_ble_eq_true rfl) rfl ?_
    exact c_sub [2, 3, 4, 1, 0] rfl (hJ 1 [.ref x0, .int x1, .int x2, .int 0, .int 0])
  · exact c_no
theorem pX6_sightsAt_1 {Γ : CT} (hC : Ctx Γ "SpiritWall$State" cX6_sightsAt 6 (some .int) rmX6_sightsAt) (hnt : NT Γ) (J : JT) (hJ : ∀ L a, Cor Γ 6 (lX6_sightsAt L a).1 (lX6_sightsAt L a).2.1 (lX6_sightsAt L a).2.2.1 (lX6_sightsAt L a).2.2.2.1 (lX6_sightsAt L a).2.2.2.2 (J L a)) (a : List Value) : Cor Γ 6 0 0 5 (List.zip [0, 1, 2, 3, 4] a) [] (bX6_sightsAt_1 J a) := by
  unfold bX6_sightsAt_1
  split
  · rename_i x0 x1 x2 x3 x4
    refine c_sub [0, 1, 2, 3, 4] rfl (loc' := [(0, .ref x0), (1, .int x1), (2, .int x2), (3, .int x3), (4, .int x4)]) ?_
    refine q_iload hC 4 dX6_sightsAt_5 rfl ?_
    refine q_aload_n hC 0 dX6_sightsAt_7 rfl rfl ?_
    refine q_getI hC (by decide) (by decide) rfl w_16 dX6_sightsAt_8 (fun v1 => ?_)
    refine q_ic_ge hC 74 dX6_sightsAt_11 rfl ?_ ?_
    · refine q_iload_n hC 3 dX6_sightsAt_74 rfl rfl ?_
      exact q_iret hC dX6_sightsAt_75 (Nat.le_of_ble_eq_true rfl) (Nat.le_of_ble_eq_true rfl)
    · refine q_aload_n hC 0 dX6_sightsAt_14 rfl rfl ?_
      refine q_getR hC (by decide) (by decide) rfl w_17 dX6_sightsAt_15 (fun r2 => ?_)
      refine q_iload hC 4 dX6_sightsAt_18 rfl ?_
      refine q_cNI hC hnt (stk := []) (as := [.ref r2, .int x4]) sX10_cell nX10_cell rfl w_347 w_202 w_27 w_201 (Nat.le_of_ble_eq_true rfl) dX6_sightsAt_20 rfl (fun v3 => ?_)
      refine q_iload_n hC 1 dX6_sightsAt_23 rfl rfl ?_
      refine q_ic_eq hC 40 dX6_sightsAt_24 rfl ?_ ?_
      · exact c_sub [0, 1, 2, 3, 4] rfl (hJ 2 [.ref x0, .int x1, .int x2, .int x3, .int x4])
      · refine q_aload_n hC 0 dX6_sightsAt_27 rfl rfl ?_
        refine q_getR hC (by decide) (by decide) rfl w_18 dX6_sightsAt_28 (fun r4 => ?_)
        refine q_iload hC 4 dX6_sightsAt_31 rfl ?_
        refine q_cNI hC hnt (stk := []) (as := [.ref r4, .int x4]) sX10_cell nX10_cell rfl w_347 w_202 w_27 w_201 (Nat.le_of_ble_eq_true rfl) dX6_sightsAt_33 rfl (fun v5 => ?_)
        refine q_iload_n hC 1 dX6_sightsAt_36 rfl rfl ?_
        refine q_ic_ne hC 44 dX6_sightsAt_37 rfl ?_ ?_
        · refine q_iconst hC dX6_sightsAt_44 rfl ?_
          refine q_istoreA hC (loc' := [(5, .int 0), (0, .ref x0), (1, .int x1), (2, .int x2), (3, .int x3), (4, .int x4)]) dX6_sightsAt_45 (Nat.le_of_ble_eq_true rfl) rfl ?_
          refine q_iload hC 0 dX6_sightsAt_47 rfl ?_
          refine q_if_eq hC 68 dX6_sightsAt_49 rfl ?_ ?_
          · refine q_iincA hC (loc' := [(4, .int (x4 + 1)), (5, .int 0), (0, .ref x0), (1, .int x1), (2, .int x2), (3, .int x3)]) 5 1 dX6_sightsAt_68 rfl rfl (Nat.le_of_ble_eq_true rfl) rfl ?_
            refine q_goto hC 5 dX6_sightsAt_71 rfl ?_
            exact c_sub [2, 3, 4, 5, 0] rfl (hJ 1 [.ref x0, .int x1, .int x2, .int x3, .int (x4 + 1)])
          · refine q_iload_n hC 3 dX6_sightsAt_52 rfl rfl ?_
            refine q_if_ne hC 65 dX6_sightsAt_53 rfl ?_ ?_
            · refine q_iincA hC (loc' := [(3, .int (x3 + 1)), (5, .int 0), (0, .ref x0), (1, .int x1), (2, .int x2), (4, .int x4)]) 4 1 dX6_sightsAt_65 rfl rfl (Nat.le_of_ble_eq_true rfl) rfl ?_
              refine q_iincA hC (loc' := [(4, .int (x4 + 1)), (3, .int (x3 + 1)), (5, .int 0), (0, .ref x0), (1, .int x1), (2, .int x2)]) 5 1 dX6_sightsAt_68 rfl rfl (Nat.le_of_ble_eq_true rfl) rfl ?_
              refine q_goto hC 5 dX6_sightsAt_71 rfl ?_
              exact c_sub [3, 4, 5, 1, 0] rfl (hJ 1 [.ref x0, .int x1, .int x2, .int (x3 + 1), .int (x4 + 1)])
            · refine q_aload_n hC 1 dX6_sightsAt_56 rfl rfl ?_
              refine q_iload hC 5 dX6_sightsAt_57 rfl ?_
              refine q_cVI hC hnt (stk := []) (as := [.int x4]) sX6_counts (ci := 6) (by decide) rfl nX6_counts rfl w_593 w_394 w_395 w_35 w_393 (Nat.le_of_ble_eq_true rfl) dX6_sightsAt_59 rfl (fun v6 => ?_)
              refine q_if_eq hC 68 dX6_sightsAt_62 rfl ?_ ?_
              · refine q_iincA hC (loc' := [(4, .int (x4 + 1)), (5, .int 0), (0, .ref x0), (1, .int x1), (2, .int x2), (3, .int x3)]) 5 1 dX6_sightsAt_68 rfl rfl (Nat.le_of_ble_eq_true rfl) rfl ?_
                refine q_goto hC 5 dX6_sightsAt_71 rfl ?_
                exact c_sub [2, 3, 4, 5, 0] rfl (hJ 1 [.ref x0, .int x1, .int x2, .int x3, .int (x4 + 1)])
              · refine q_iincA hC (loc' := [(3, .int (x3 + 1)), (5, .int 0), (0, .ref x0), (1, .int x1), (2, .int x2), (4, .int x4)]) 4 1 dX6_sightsAt_65 rfl rfl (Nat.le_of_ble_eq_true rfl) rfl ?_
                refine q_iincA hC (loc' := [(4, .int (x4 + 1)), (3, .int (x3 + 1)), (5, .int 0), (0, .ref x0), (1, .int x1), (2, .int x2)]) 5 1 dX6_sightsAt_68 rfl rfl (Nat.le_of_ble_eq_true rfl) rfl ?_
                refine q_goto hC 5 dX6_sightsAt_71 rfl ?_
                exact c_sub [3, 4, 5, 1, 0] rfl (hJ 1 [.ref x0, .int x1, .int x2, .int (x3 + 1), .int (x4 + 1)])
        · exact c_sub [0, 1, 2, 3, 4] rfl (hJ 2 [.ref x0, .int x1, .int x2, .int x3, .int x4])
  · exact c_no
theorem pX6_sightsAt_2 {Γ : CT} (hC : Ctx Γ "SpiritWall$State" cX6_sightsAt 6 (some .int) rmX6_sightsAt) (hnt : NT Γ) (J : JT) (hJ : ∀ L a, Cor Γ 6 (lX6_sightsAt L a).1 (lX6_sightsAt L a).2.1 (lX6_sightsAt L a).2.2.1 (lX6_sightsAt L a).2.2.2.1 (lX6_sightsAt L a).2.2.2.2 (J L a)) (a : List Value) : Cor Γ 6 0 0 40 (List.zip [0, 1, 2, 3, 4] a) [] (bX6_sightsAt_2 J a) := by
  unfold bX6_sightsAt_2
  split
  · rename_i x0 x1 x2 x3 x4
    refine c_sub [0, 1, 2, 3, 4] rfl (loc' := [(0, .ref x0), (1, .int x1), (2, .int x2), (3, .int x3), (4, .int x4)]) ?_
    refine q_iconst hC dX6_sightsAt_40 rfl ?_
    refine q_goto hC 45 dX6_sightsAt_41 rfl ?_
    refine q_istoreA hC (loc' := [(5, .int 1), (0, .ref x0), (1, .int x1), (2, .int x2), (3, .int x3), (4, .int x4)]) dX6_sightsAt_45 (Nat.le_of_ble_eq_true rfl) rfl ?_
    refine q_iload hC 0 dX6_sightsAt_47 rfl ?_
    refine q_if_eq hC 68 dX6_sightsAt_49 rfl ?_ ?_
    · refine q_iincA hC (loc' := [(4, .int (x4 + 1)), (5, .int 1), (0, .ref x0), (1, .int x1), (2, .int x2), (3, .int x3)]) 5 1 dX6_sightsAt_68 rfl rfl (Nat.le_of_ble_eq_true rfl) rfl ?_
      refine q_goto hC 5 dX6_sightsAt_71 rfl ?_
      exact c_sub [2, 3, 4, 5, 0] rfl (hJ 1 [.ref x0, .int x1, .int x2, .int x3, .int (x4 + 1)])
    · refine q_iload_n hC 3 dX6_sightsAt_52 rfl rfl ?_
      refine q_if_ne hC 65 dX6_sightsAt_53 rfl ?_ ?_
      · refine q_iincA hC (loc' := [(3, .int (x3 + 1)), (5, .int 1), (0, .ref x0), (1, .int x1), (2, .int x2), (4, .int x4)]) 4 1 dX6_sightsAt_65 rfl rfl (Nat.le_of_ble_eq_true rfl) rfl ?_
        refine q_iincA hC (loc' := [(4, .int (x4 + 1)), (3, .int (x3 + 1)), (5, .int 1), (0, .ref x0), (1, .int x1), (2, .int x2)]) 5 1 dX6_sightsAt_68 rfl rfl (Nat.le_of_ble_eq_true rfl) rfl ?_
        refine q_goto hC 5 dX6_sightsAt_71 rfl ?_
        exact c_sub [3, 4, 5, 1, 0] rfl (hJ 1 [.ref x0, .int x1, .int x2, .int (x3 + 1), .int (x4 + 1)])
      · refine q_aload_n hC 1 dX6_sightsAt_56 rfl rfl ?_
        refine q_iload hC 5 dX6_sightsAt_57 rfl ?_
        refine q_cVI hC hnt (stk := []) (as := [.int x4]) sX6_counts (ci := 6) (by decide) rfl nX6_counts rfl w_593 w_394 w_395 w_35 w_393 (Nat.le_of_ble_eq_true rfl) dX6_sightsAt_59 rfl (fun v1 => ?_)
        refine q_if_eq hC 68 dX6_sightsAt_62 rfl ?_ ?_
        · refine q_iincA hC (loc' := [(4, .int (x4 + 1)), (5, .int 1), (0, .ref x0), (1, .int x1), (2, .int x2), (3, .int x3)]) 5 1 dX6_sightsAt_68 rfl rfl (Nat.le_of_ble_eq_true rfl) rfl ?_
          refine q_goto hC 5 dX6_sightsAt_71 rfl ?_
          exact c_sub [2, 3, 4, 5, 0] rfl (hJ 1 [.ref x0, .int x1, .int x2, .int x3, .int (x4 + 1)])
        · refine q_iincA hC (loc' := [(3, .int (x3 + 1)), (5, .int 1), (0, .ref x0), (1, .int x1), (2, .int x2), (4, .int x4)]) 4 1 dX6_sightsAt_65 rfl rfl (Nat.le_of_ble_eq_true rfl) rfl ?_
          refine q_iincA hC (loc' := [(4, .int (x4 + 1)), (3, .int (x3 + 1)), (5, .int 1), (0, .ref x0), (1, .int x1), (2, .int x2)]) 5 1 dX6_sightsAt_68 rfl rfl (Nat.le_of_ble_eq_true rfl) rfl ?_
          refine q_goto hC 5 dX6_sightsAt_71 rfl ?_
          exact c_sub [3, 4, 5, 1, 0] rfl (hJ 1 [.ref x0, .int x1, .int x2, .int (x3 + 1), .int (x4 + 1)])
  · exact c_no
theorem sX6_sightsAt : Snd yX6_sightsAt (.code yX6_sightsAt cX6_sightsAt 6 (some .int)) rmX6_sightsAt SX6_sightsAt := by
  refine Snd.of lX6_sightsAt (by decide +kernel) (fun _ => rfl) ?_
  intro Γ hC hnt hnm J hJ L a
  match L with
  | 0 => exact pX6_sightsAt_0 hC hnt J hJ a
  | 1 => exact pX6_sightsAt_1 hC hnt J hJ a
  | 2 => exact pX6_sightsAt_2 hC hnt J hJ a
  | L + 3 => exact c_no
/-! SpiritWall.mark(II)I -/
theorem dX10_mark_0 : decode cX10_mark 0 = .ok (.aload_n 0, 1) := by decide +kernel
theorem dX10_mark_1 : decode cX10_mark 1 = .ok (.iload_n 1, 1) := by decide +kernel
theorem dX10_mark_2 : decode cX10_mark 2 = .ok (.invokevirtual 170, 3) := by decide +kernel
theorem dX10_mark_5 : decode cX10_mark 5 = .ok (.aload_n 0, 1) := by decide +kernel
theorem dX10_mark_6 : decode cX10_mark 6 = .ok (.aload_n 0, 1) := by decide +kernel
theorem dX10_mark_7 : decode cX10_mark 7 = .ok (.getfield 31, 3) := by decide +kernel
theorem dX10_mark_10 : decode cX10_mark 10 = .ok (.invokevirtual 135, 3) := by decide +kernel
theorem dX10_mark_13 : decode cX10_mark 13 = .ok (.iload_n 2, 1) := by decide +kernel
theorem dX10_mark_14 : decode cX10_mark 14 = .ok (.tableswitch 89 0 4 #[34, 46, 58, 67, 77], 34) := by decide +kernel
theorem dX10_mark_48 : decode cX10_mark 48 = .ok (.aload_n 0, 1) := by decide +kernel
theorem dX10_mark_49 : decode cX10_mark 49 = .ok (.getfield 24, 3) := by decide +kernel
theorem dX10_mark_52 : decode cX10_mark 52 = .ok (.getfield 186, 3) := by decide +kernel
theorem dX10_mark_55 : decode cX10_mark 55 = .ok (.iload_n 1, 1) := by decide +kernel
theorem dX10_mark_56 : decode cX10_mark 56 = .ok (.invokestatic 190, 3) := by decide +kernel
theorem dX10_mark_59 : decode cX10_mark 59 = .ok (.ireturn, 1) := by decide +kernel
theorem dX10_mark_60 : decode cX10_mark 60 = .ok (.aload_n 0, 1) := by decide +kernel
theorem dX10_mark_61 : decode cX10_mark 61 = .ok (.getfield 31, 3) := by decide +kernel
theorem dX10_mark_64 : decode cX10_mark 64 = .ok (.getfield 194, 3) := by decide +kernel
theorem dX10_mark_67 : decode cX10_mark 67 = .ok (.iload_n 1, 1) := by decide +kernel
theorem dX10_mark_68 : decode cX10_mark 68 = .ok (.invokestatic 190, 3) := by decide +kernel
theorem dX10_mark_71 : decode cX10_mark 71 = .ok (.ireturn, 1) := by decide +kernel
theorem dX10_mark_72 : decode cX10_mark 72 = .ok (.aload_n 0, 1) := by decide +kernel
theorem dX10_mark_73 : decode cX10_mark 73 = .ok (.getfield 62, 3) := by decide +kernel
theorem dX10_mark_76 : decode cX10_mark 76 = .ok (.iload_n 1, 1) := by decide +kernel
theorem dX10_mark_77 : decode cX10_mark 77 = .ok (.invokevirtual 197, 3) := by decide +kernel
theorem dX10_mark_80 : decode cX10_mark 80 = .ok (.ireturn, 1) := by decide +kernel
theorem dX10_mark_81 : decode cX10_mark 81 = .ok (.aload_n 0, 1) := by decide +kernel
theorem dX10_mark_82 : decode cX10_mark 82 = .ok (.getfield 31, 3) := by decide +kernel
theorem dX10_mark_85 : decode cX10_mark 85 = .ok (.iload_n 1, 1) := by decide +kernel
theorem dX10_mark_86 : decode cX10_mark 86 = .ok (.iconst 0, 1) := by decide +kernel
theorem dX10_mark_87 : decode cX10_mark 87 = .ok (.invokevirtual 200, 3) := by decide +kernel
theorem dX10_mark_90 : decode cX10_mark 90 = .ok (.ireturn, 1) := by decide +kernel
theorem dX10_mark_91 : decode cX10_mark 91 = .ok (.aload_n 0, 1) := by decide +kernel
theorem dX10_mark_92 : decode cX10_mark 92 = .ok (.getfield 71, 3) := by decide +kernel
theorem dX10_mark_95 : decode cX10_mark 95 = .ok (.getfield 204, 3) := by decide +kernel
theorem dX10_mark_98 : decode cX10_mark 98 = .ok (.iload_n 1, 1) := by decide +kernel
theorem dX10_mark_99 : decode cX10_mark 99 = .ok (.invokestatic 190, 3) := by decide +kernel
theorem dX10_mark_102 : decode cX10_mark 102 = .ok (.ireturn, 1) := by decide +kernel
theorem dX10_mark_103 : decode cX10_mark 103 = .ok (.new 207, 3) := by decide +kernel
theorem dX10_mark_106 : decode cX10_mark 106 = .ok (.dup, 1) := by decide +kernel
theorem dX10_mark_107 : decode cX10_mark 107 = .ok (.ldc 209, 2) := by decide +kernel
theorem dX10_mark_109 : decode cX10_mark 109 = .ok (.invokespecial 211, 3) := by decide +kernel
theorem dX10_mark_112 : decode cX10_mark 112 = .ok (.athrow, 1) := by decide +kernel
def rmX10_mark : Room := rmk 13 2 12 311
theorem nX10_mark : nameOk yX10_mark 2 = true := by decide +kernel
def bX10_mark_0 (J : JT) : List Value → Sem
  | [.ref x0, .int x1, .int x2] =>
    ob 10 x0 (cV SX10_needMark [.ref x0, .int x1] <|
    gR 10 3 x0 fun r1 =>
    ob 10 x0 (cV SX10_survey [.ref x0, .ref r1] <|
    sw x2 (0) 5 fun k => match k with
    | 0 => (gR 10 2 x0 fun r2 =>
    gR 9 2 r2 fun r3 =>
    cI SX10_cell [.ref r3, .int x1] fun v4 =>
    rI v4)
    | 1 => (gR 10 3 x0 fun r5 =>
    gR 6 3 r5 fun r6 =>
    cI SX10_cell [.ref r6, .int x1] fun v7 =>
    rI v7)
    | 2 => (gR 10 8 x0 fun r8 =>
    ob 0 r8 (cI SX0_edgesAt [.ref r8, .int x1] fun v9 =>
    rI v9))
    | 3 => (gR 10 3 x0 fun r10 =>
    ob 6 r10 (cI SX6_sightsAt [.ref r10, .int x1, .int 0] fun v11 =>
    rI v11))
    | 4 => (gR 10 9 x0 fun r12 =>
    gR 1 4 r12 fun r13 =>
    cI SX10_cell [.ref r13, .int x1] fun v14 =>
    rI v14)
    | _ => (thr 2)))
  | _ => no
def bX10_mark (J : JT) : JT := fun L a => match L with
  | 0 => bX10_mark_0 J a
  | _ => no
def SX10_mark : ST := mk 3 bX10_mark
def lX10_mark (L : Nat) (a : List Value) : Nat × Nat × Nat × List (Nat × Value) × List Value := match L with
  | 0 => (0, 0, 0, lv_args 0 a, [])
  | _ => (0, 0, 0, [], [])
theorem pX10_mark_0 {Γ : CT} (hC : Ctx Γ "SpiritWall" cX10_mark 3 (some .int) rmX10_mark) (hnt : NT Γ) (J : JT) (hJ : ∀ L a, Cor Γ 3 (lX10_mark L a).1 (lX10_mark L a).2.1 (lX10_mark L a).2.2.1 (lX10_mark L a).2.2.2.1 (lX10_mark L a).2.2.2.2 (J L a)) (a : List Value) : Cor Γ 3 0 0 0 (lv_args 0 a) [] (bX10_mark_0 J a) := by
  unfold bX10_mark_0
  split
  · rename_i x0 x1 x2
    refine c_sub [0, 1, 2] rfl (loc' := [(0, .ref x0), (1, .int x1), (2, .int x2)]) ?_
    refine q_aload_n hC 0 dX10_mark_0 rfl rfl ?_
    refine q_iload_n hC 1 dX10_mark_1 rfl rfl ?_
    refine q_cVV hC hnt (stk := []) (as := [.int x1]) sX10_needMark (ci := 10) (by decide) rfl nX10_needMark rfl w_575 w_577 w_578 w_27 w_576 (Nat.le_of_ble_eq_true rfl) dX10_mark_2 rfl ?_
    refine q_aload_n hC 0 dX10_mark_5 rfl rfl ?_
    refine q_aload_n hC 0 dX10_mark_6 rfl rfl ?_
    refine q_getR hC (by decide) (by decide) rfl w_133 dX10_mark_7 (fun r1 => ?_)
    refine q_cVV hC hnt (stk := []) (as := [.ref r1]) sX10_survey (ci := 10) (by decide) rfl nX10_survey rfl w_552 w_554 w_555 w_27 w_553 (Nat.le_of_ble_eq_true rfl) dX10_mark_10 rfl ?_
    refine q_iload_n hC 2 dX10_mark_13 rfl rfl ?_
    refine q_sw hC (0) 5 (fun k => ([48, 60, 72, 81, 91] : List Nat).getD k 103) dX10_mark_14 rfl rfl (by decide +kernel) rfl ?_
    intro i hi
    match i, hi with
    | 0, _ =>
      refine c_pc (pc' := 48) rfl ?_
      refine q_aload_n hC 0 dX10_mark_48 rfl rfl ?_
      refine q_getR hC (by decide) (by decide) rfl w_131 dX10_mark_49 (fun r2 => ?_)
      refine q_getR hC (by decide) (by decide) rfl w_594 dX10_mark_52 (fun r3 => ?_)
      refine q_iload_n hC 1 dX10_mark_55 rfl rfl ?_
      refine q_cSI hC hnt (stk := []) (as := [.ref r3, .int x1]) sX10_cell nX10_cell rfl w_408 w_202 w_27 w_201 (Nat.le_of_ble_eq_true rfl) dX10_mark_56 rfl (fun v4 => ?_)
      exact q_iret hC dX10_mark_59 (Nat.le_of_ble_eq_true rfl) (Nat.le_of_ble_eq_true rfl)
    | 1, _ =>
      refine c_pc (pc' := 60) rfl ?_
      refine q_aload_n hC 0 dX10_mark_60 rfl rfl ?_
      refine q_getR hC (by decide) (by decide) rfl w_133 dX10_mark_61 (fun r5 => ?_)
      refine q_getR hC (by decide) (by decide) rfl w_595 dX10_mark_64 (fun r6 => ?_)
      refine q_iload_n hC 1 dX10_mark_67 rfl rfl ?_
      refine q_cSI hC hnt (stk := []) (as := [.ref r6, .int x1]) sX10_cell nX10_cell rfl w_408 w_202 w_27 w_201 (Nat.le_of_ble_eq_true rfl) dX10_mark_68 rfl (fun v7 => ?_)
      exact q_iret hC dX10_mark_71 (Nat.le_of_ble_eq_true rfl) (Nat.le_of_ble_eq_true rfl)
    | 2, _ =>
      refine c_pc (pc' := 72) rfl ?_
      refine q_aload_n hC 0 dX10_mark_72 rfl rfl ?_
      refine q_getR hC (by decide) (by decide) rfl w_150 dX10_mark_73 (fun r8 => ?_)
      refine q_iload_n hC 1 dX10_mark_76 rfl rfl ?_
      refine q_cVI hC hnt (stk := []) (as := [.int x1]) sX0_edgesAt (ci := 0) (by decide) rfl nX0_edgesAt rfl w_596 w_598 w_599 w_149 w_597 (Nat.le_of_ble_eq_true rfl) dX10_mark_77 rfl (fun v9 => ?_)
      exact q_iret hC dX10_mark_80 (Nat.le_of_ble_eq_true rfl) (Nat.le_of_ble_eq_true rfl)
    | 3, _ =>
      refine c_pc (pc' := 81) rfl ?_
      refine q_aload_n hC 0 dX10_mark_81 rfl rfl ?_
      refine q_getR hC (by decide) (by decide) rfl w_133 dX10_mark_82 (fun r10 => ?_)
      refine q_iload_n hC 1 dX10_mark_85 rfl rfl ?_
      refine q_iconst hC dX10_mark_86 rfl ?_
      refine q_cVI hC hnt (stk := []) (as := [.int x1, .int 0]) sX6_sightsAt (ci := 6) (by decide) rfl nX6_sightsAt rfl w_600 w_602 w_603 w_35 w_601 (Nat.le_of_ble_eq_true rfl) dX10_mark_87 rfl (fun v11 => ?_)
      exact q_iret hC dX10_mark_90 (Nat.le_of_ble_eq_true rfl) (Nat.le_of_ble_eq_true rfl)
    | 4, _ =>
      refine c_pc (pc' := 91) rfl ?_
      refine q_aload_n hC 0 dX10_mark_91 rfl rfl ?_
      refine q_getR hC (by decide) (by decide) rfl w_155 dX10_mark_92 (fun r12 => ?_)
      refine q_getR hC (by decide) (by decide) rfl w_604 dX10_mark_95 (fun r13 => ?_)
      refine q_iload_n hC 1 dX10_mark_98 rfl rfl ?_
      refine q_cSI hC hnt (stk := []) (as := [.ref r13, .int x1]) sX10_cell nX10_cell rfl w_408 w_202 w_27 w_201 (Nat.le_of_ble_eq_true rfl) dX10_mark_99 rfl (fun v14 => ?_)
      exact q_iret hC dX10_mark_102 (Nat.le_of_ble_eq_true rfl) (Nat.le_of_ble_eq_true rfl)
    | 5, _ =>
      refine c_pc (pc' := 103) rfl ?_
      exact q_throw hC (by decide) (by decide) (by decide +kernel) (i := 21) (tx := "no such number of a mark") (by decide +kernel) hnt dX10_mark_103 dX10_mark_106 dX10_mark_107 dX10_mark_109 dX10_mark_112 (Nat.le_of_ble_eq_true rfl) (Nat.le_of_ble_eq_true rfl) ⟨(Nat.le_of_ble_eq_true rfl), (Nat.le_of_ble_eq_true rfl)⟩
    | k + 6, h => exact absurd h (by omega)
  · exact c_no
theorem sX10_mark : Snd yX10_mark (.code yX10_mark cX10_mark 3 (some .int)) rmX10_mark SX10_mark := by
  refine Snd.of lX10_mark (by decide +kernel) (fun _ => rfl) ?_
  intro Γ hC hnt hnm J hJ L a
  match L with
  | 0 => exact pX10_mark_0 hC hnt J hJ a
  | L + 1 => exact c_no
/-! SpiritWall$State.hasHeight(I)Z -/
theorem dX6_hasHeight_0 : decode cX6_hasHeight 0 = .ok (.aload_n 0, 1) := by decide +kernel
theorem dX6_hasHeight_1 : decode cX6_hasHeight 1 = .ok (.getfield 26, 3) := by decide +kernel
theorem dX6_hasHeight_4 : decode cX6_hasHeight 4 = .ok (.iload_n 1, 1) := by decide +kernel
theorem dX6_hasHeight_5 : decode cX6_hasHeight 5 = .ok (.invokestatic 64, 3) := by decide +kernel
theorem dX6_hasHeight_8 : decode cX6_hasHeight 8 = .ok (.iconst 1, 1) := by decide +kernel
theorem dX6_hasHeight_9 : decode cX6_hasHeight 9 = .ok (.if_icmp .ne 7, 3) := by decide +kernel
theorem dX6_hasHeight_12 : decode cX6_hasHeight 12 = .ok (.iconst 1, 1) := by decide +kernel
theorem dX6_hasHeight_13 : decode cX6_hasHeight 13 = .ok (.goto 4, 3) := by decide +kernel
theorem dX6_hasHeight_16 : decode cX6_hasHeight 16 = .ok (.iconst 0, 1) := by decide +kernel
theorem dX6_hasHeight_17 : decode cX6_hasHeight 17 = .ok (.ireturn, 1) := by decide +kernel
def rmX6_hasHeight : Room := rmk 7 0 0 171
theorem nX6_hasHeight : nameOk yX6_hasHeight 1 = true := by decide +kernel
def bX6_hasHeight_0 (J : JT) : List Value → Sem
  | [.ref x0, .int x1] =>
    gR 6 4 x0 fun r1 =>
    cI SX10_cell [.ref r1, .int x1] fun v2 =>
    br (v2 = (1 : Int32))
    (rZ 1)
    (rZ 0)
  | _ => no
def bX6_hasHeight (J : JT) : JT := fun L a => match L with
  | 0 => bX6_hasHeight_0 J a
  | _ => no
def SX6_hasHeight : ST := mk 2 bX6_hasHeight
def lX6_hasHeight (L : Nat) (a : List Value) : Nat × Nat × Nat × List (Nat × Value) × List Value := match L with
  | 0 => (0, 0, 0, lv_args 0 a, [])
  | _ => (0, 0, 0, [], [])
theorem pX6_hasHeight_0 {Γ : CT} (hC : Ctx Γ "SpiritWall$State" cX6_hasHeight 2 (some .boolean) rmX6_hasHeight) (hnt : NT Γ) (J : JT) (hJ : ∀ L a, Cor Γ 2 (lX6_hasHeight L a).1 (lX6_hasHeight L a).2.1 (lX6_hasHeight L a).2.2.1 (lX6_hasHeight L a).2.2.2.1 (lX6_hasHeight L a).2.2.2.2 (J L a)) (a : List Value) : Cor Γ 2 0 0 0 (lv_args 0 a) [] (bX6_hasHeight_0 J a) := by
  unfold bX6_hasHeight_0
  split
  · rename_i x0 x1
    refine c_sub [0, 1] rfl (loc' := [(0, .ref x0), (1, .int x1)]) ?_
    refine q_aload_n hC 0 dX6_hasHeight_0 rfl rfl ?_
    refine q_getR hC (by decide) (by decide) rfl w_14 dX6_hasHeight_1 (fun r1 => ?_)
    refine q_iload_n hC 1 dX6_hasHeight_4 rfl rfl ?_
    refine q_cNI hC hnt (stk := []) (as := [.ref r1, .int x1]) sX10_cell nX10_cell rfl w_347 w_202 w_27 w_201 (Nat.le_of_ble_eq_true rfl) dX6_hasHeight_5 rfl (fun v2 => ?_)
    refine q_iconst hC dX6_hasHeight_8 rfl ?_
    refine q_ic_ne hC 16 dX6_hasHeight_9 rfl ?_ ?_
    · refine q_iconst hC dX6_hasHeight_16 rfl ?_
      exact q_zret hC dX6_hasHeight_17 (Nat.le_of_ble_eq_true rfl) (Nat.le_of_ble_eq_true rfl)
    · refine q_iconst hC dX6_hasHeight_12 rfl ?_
      refine q_goto hC 17 dX6_hasHeight_13 rfl ?_
      exact q_zret hC dX6_hasHeight_17 (Nat.le_of_ble_eq_true rfl) (Nat.le_of_ble_eq_true rfl)
  · exact c_no
theorem sX6_hasHeight : Snd yX6_hasHeight (.code yX6_hasHeight cX6_hasHeight 2 (some .boolean)) rmX6_hasHeight SX6_hasHeight := by
  refine Snd.of lX6_hasHeight (by decide +kernel) (fun _ => rfl) ?_
  intro Γ hC hnt hnm J hJ L a
  match L with
  | 0 => exact pX6_hasHeight_0 hC hnt J hJ a
  | L + 1 => exact c_no
/-! SpiritWall$State.heightOf(I)I -/
theorem dX6_heightOf_0 : decode cX6_heightOf 0 = .ok (.aload_n 0, 1) := by decide +kernel
theorem dX6_heightOf_1 : decode cX6_heightOf 1 = .ok (.iload_n 1, 1) := by decide +kernel
theorem dX6_heightOf_2 : decode cX6_heightOf 2 = .ok (.invokevirtual 68, 3) := by decide +kernel
theorem dX6_heightOf_5 : decode cX6_heightOf 5 = .ok (.ifCond .eq 14, 3) := by decide +kernel
theorem dX6_heightOf_8 : decode cX6_heightOf 8 = .ok (.aload_n 0, 1) := by decide +kernel
theorem dX6_heightOf_9 : decode cX6_heightOf 9 = .ok (.getfield 29, 3) := by decide +kernel
theorem dX6_heightOf_12 : decode cX6_heightOf 12 = .ok (.iload_n 1, 1) := by decide +kernel
theorem dX6_heightOf_13 : decode cX6_heightOf 13 = .ok (.invokestatic 64, 3) := by decide +kernel
theorem dX6_heightOf_16 : decode cX6_heightOf 16 = .ok (.goto 5, 3) := by decide +kernel
theorem dX6_heightOf_19 : decode cX6_heightOf 19 = .ok (.ldc 72, 2) := by decide +kernel
theorem dX6_heightOf_21 : decode cX6_heightOf 21 = .ok (.ireturn, 1) := by decide +kernel
def rmX6_heightOf : Room := rmk 8 0 0 192
theorem nX6_heightOf : nameOk yX6_heightOf 1 = true := by decide +kernel
def bX6_heightOf_0 (J : JT) : List Value → Sem
  | [.ref x0, .int x1] =>
    ob 6 x0 (cI SX6_hasHeight [.ref x0, .int x1] fun v1 =>
    br (v1 = 0)
    (rI (-10000000))
    (gR 6 5 x0 fun r2 =>
    cI SX10_cell [.ref r2, .int x1] fun v3 =>
    rI v3))
  | _ => no
def bX6_heightOf (J : JT) : JT := fun L a => match L with
  | 0 => bX6_heightOf_0 J a
  | _ => no
def SX6_heightOf : ST := mk 2 bX6_heightOf
def lX6_heightOf (L : Nat) (a : List Value) : Nat × Nat × Nat × List (Nat × Value) × List Value := match L with
  | 0 => (0, 0, 0, lv_args 0 a, [])
  | _ => (0, 0, 0, [], [])
theorem pX6_heightOf_0 {Γ : CT} (hC : Ctx Γ "SpiritWall$State" cX6_heightOf 2 (some .int) rmX6_heightOf) (hnt : NT Γ) (J : JT) (hJ : ∀ L a, Cor Γ 2 (lX6_heightOf L a).1 (lX6_heightOf L a).2.1 (lX6_heightOf L a).2.2.1 (lX6_heightOf L a).2.2.2.1 (lX6_heightOf L a).2.2.2.2 (J L a)) (a : List Value) : Cor Γ 2 0 0 0 (lv_args 0 a) [] (bX6_heightOf_0 J a) := by
  unfold bX6_heightOf_0
  split
  · rename_i x0 x1
    refine c_sub [0, 1] rfl (loc' := [(0, .ref x0), (1, .int x1)]) ?_
    refine q_aload_n hC 0 dX6_heightOf_0 rfl rfl ?_
    refine q_iload_n hC 1 dX6_heightOf_1 rfl rfl ?_
    refine q_cVI hC hnt (stk := []) (as := [.int x1]) sX6_hasHeight (ci := 6) (by decide) rfl nX6_hasHeight rfl w_605 w_607 w_608 w_35 w_606 (Nat.le_of_ble_eq_true rfl) dX6_heightOf_2 rfl (fun v1 => ?_)
    refine q_if_eq hC 19 dX6_heightOf_5 rfl ?_ ?_
    · refine q_ldc hC w_609 dX6_heightOf_19 ?_
      exact q_iret hC dX6_heightOf_21 (Nat.le_of_ble_eq_true rfl) (Nat.le_of_ble_eq_true rfl)
    · refine q_aload_n hC 0 dX6_heightOf_8 rfl rfl ?_
      refine q_getR hC (by decide) (by decide) rfl w_15 dX6_heightOf_9 (fun r2 => ?_)
      refine q_iload_n hC 1 dX6_heightOf_12 rfl rfl ?_
      refine q_cNI hC hnt (stk := []) (as := [.ref r2, .int x1]) sX10_cell nX10_cell rfl w_347 w_202 w_27 w_201 (Nat.le_of_ble_eq_true rfl) dX6_heightOf_13 rfl (fun v3 => ?_)
      refine q_goto hC 21 dX6_heightOf_16 rfl ?_
      exact q_iret hC dX6_heightOf_21 (Nat.le_of_ble_eq_true rfl) (Nat.le_of_ble_eq_true rfl)
  · exact c_no
theorem sX6_heightOf : Snd yX6_heightOf (.code yX6_heightOf cX6_heightOf 2 (some .int)) rmX6_heightOf SX6_heightOf := by
  refine Snd.of lX6_heightOf (by decide +kernel) (fun _ => rfl) ?_
  intro Γ hC hnt hnm J hJ L a
  match L with
  | 0 => exact pX6_heightOf_0 hC hnt J hJ a
  | L + 1 => exact c_no
/-! SpiritWall.height(I)I -/
theorem dX10_height_0 : decode cX10_height 0 = .ok (.aload_n 0, 1) := by decide +kernel
theorem dX10_height_1 : decode cX10_height 1 = .ok (.iload_n 1, 1) := by decide +kernel
theorem dX10_height_2 : decode cX10_height 2 = .ok (.invokevirtual 170, 3) := by decide +kernel
theorem dX10_height_5 : decode cX10_height 5 = .ok (.aload_n 0, 1) := by decide +kernel
theorem dX10_height_6 : decode cX10_height 6 = .ok (.getfield 31, 3) := by decide +kernel
theorem dX10_height_9 : decode cX10_height 9 = .ok (.iload_n 1, 1) := by decide +kernel
theorem dX10_height_10 : decode cX10_height 10 = .ok (.invokevirtual 214, 3) := by decide +kernel
theorem dX10_height_13 : decode cX10_height 13 = .ok (.ireturn, 1) := by decide +kernel
def rmX10_height : Room := rmk 9 1 6 213
theorem nX10_height : nameOk yX10_height 1 = true := by decide +kernel
def bX10_height_0 (J : JT) : List Value → Sem
  | [.ref x0, .int x1] =>
    ob 10 x0 (cV SX10_needMark [.ref x0, .int x1] <|
    gR 10 3 x0 fun r1 =>
    ob 6 r1 (cI SX6_heightOf [.ref r1, .int x1] fun v2 =>
    rI v2))
  | _ => no
def bX10_height (J : JT) : JT := fun L a => match L with
  | 0 => bX10_height_0 J a
  | _ => no
def SX10_height : ST := mk 2 bX10_height
def lX10_height (L : Nat) (a : List Value) : Nat × Nat × Nat × List (Nat × Value) × List Value := match L with
  | 0 => (0, 0, 0, lv_args 0 a, [])
  | _ => (0, 0, 0, [], [])
theorem pX10_height_0 {Γ : CT} (hC : Ctx Γ "SpiritWall" cX10_height 2 (some .int) rmX10_height) (hnt : NT Γ) (J : JT) (hJ : ∀ L a, Cor Γ 2 (lX10_height L a).1 (lX10_height L a).2.1 (lX10_height L a).2.2.1 (lX10_height L a).2.2.2.1 (lX10_height L a).2.2.2.2 (J L a)) (a : List Value) : Cor Γ 2 0 0 0 (lv_args 0 a) [] (bX10_height_0 J a) := by
  unfold bX10_height_0
  split
  · rename_i x0 x1
    refine c_sub [0, 1] rfl (loc' := [(0, .ref x0), (1, .int x1)]) ?_
    refine q_aload_n hC 0 dX10_height_0 rfl rfl ?_
    refine q_iload_n hC 1 dX10_height_1 rfl rfl ?_
    refine q_cVV hC hnt (stk := []) (as := [.int x1]) sX10_needMark (ci := 10) (by decide) rfl nX10_needMark rfl w_575 w_577 w_578 w_27 w_576 (Nat.le_of_ble_eq_true rfl) dX10_height_2 rfl ?_
    refine q_aload_n hC 0 dX10_height_5 rfl rfl ?_
    refine q_getR hC (by decide) (by decide) rfl w_133 dX10_height_6 (fun r1 => ?_)
    refine q_iload_n hC 1 dX10_height_9 rfl rfl ?_
    refine q_cVI hC hnt (stk := []) (as := [.int x1]) sX6_heightOf (ci := 6) (by decide) rfl nX6_heightOf rfl w_610 w_612 w_613 w_35 w_611 (Nat.le_of_ble_eq_true rfl) dX10_height_10 rfl (fun v2 => ?_)
    exact q_iret hC dX10_height_13 (Nat.le_of_ble_eq_true rfl) (Nat.le_of_ble_eq_true rfl)
  · exact c_no
theorem sX10_height : Snd yX10_height (.code yX10_height cX10_height 2 (some .int)) rmX10_height SX10_height := by
  refine Snd.of lX10_height (by decide +kernel) (fun _ => rfl) ?_
  intro Γ hC hnt hnm J hJ L a
  match L with
  | 0 => exact pX10_height_0 hC hnt J hJ a
  | L + 1 => exact c_no
/-! SpiritWall$State.isBench(I)Z -/
theorem dX6_isBench_0 : decode cX6_isBench 0 = .ok (.aload_n 0, 1) := by decide +kernel
theorem dX6_isBench_1 : decode cX6_isBench 1 = .ok (.getfield 23, 3) := by decide +kernel
theorem dX6_isBench_4 : decode cX6_isBench 4 = .ok (.iload_n 1, 1) := by decide +kernel
theorem dX6_isBench_5 : decode cX6_isBench 5 = .ok (.invokestatic 64, 3) := by decide +kernel
theorem dX6_isBench_8 : decode cX6_isBench 8 = .ok (.iconst 1, 1) := by decide +kernel
theorem dX6_isBench_9 : decode cX6_isBench 9 = .ok (.if_icmp .ne 7, 3) := by decide +kernel
theorem dX6_isBench_12 : decode cX6_isBench 12 = .ok (.iconst 1, 1) := by decide +kernel
theorem dX6_isBench_13 : decode cX6_isBench 13 = .ok (.goto 4, 3) := by decide +kernel
theorem dX6_isBench_16 : decode cX6_isBench 16 = .ok (.iconst 0, 1) := by decide +kernel
theorem dX6_isBench_17 : decode cX6_isBench 17 = .ok (.ireturn, 1) := by decide +kernel
def rmX6_isBench : Room := rmk 7 0 0 171
theorem nX6_isBench : nameOk yX6_isBench 1 = true := by decide +kernel
def bX6_isBench_0 (J : JT) : List Value → Sem
  | [.ref x0, .int x1] =>
    gR 6 3 x0 fun r1 =>
    cI SX10_cell [.ref r1, .int x1] fun v2 =>
    br (v2 = (1 : Int32))
    (rZ 1)
    (rZ 0)
  | _ => no
def bX6_isBench (J : JT) : JT := fun L a => match L with
  | 0 => bX6_isBench_0 J a
  | _ => no
def SX6_isBench : ST := mk 2 bX6_isBench
def lX6_isBench (L : Nat) (a : List Value) : Nat × Nat × Nat × List (Nat × Value) × List Value := match L with
  | 0 => (0, 0, 0, lv_args 0 a, [])
  | _ => (0, 0, 0, [], [])
theorem pX6_isBench_0 {Γ : CT} (hC : Ctx Γ "SpiritWall$State" cX6_isBench 2 (some .boolean) rmX6_isBench) (hnt : NT Γ) (J : JT) (hJ : ∀ L a, Cor Γ 2 (lX6_isBench L a).1 (lX6_isBench L a).2.1 (lX6_isBench L a).2.2.1 (lX6_isBench L a).2.2.2.1 (lX6_isBench L a).2.2.2.2 (J L a)) (a : List Value) : Cor Γ 2 0 0 0 (lv_args 0 a) [] (bX6_isBench_0 J a) := by
  unfold bX6_isBench_0
  split
  · rename_i x0 x1
    refine c_sub [0, 1] rfl (loc' := [(0, .ref x0), (1, .int x1)]) ?_
    refine q_aload_n hC 0 dX6_isBench_0 rfl rfl ?_
    refine q_getR hC (by decide) (by decide) rfl w_13 dX6_isBench_1 (fun r1 => ?_)
    refine q_iload_n hC 1 dX6_isBench_4 rfl rfl ?_
    refine q_cNI hC hnt (stk := []) (as := [.ref r1, .int x1]) sX10_cell nX10_cell rfl w_347 w_202 w_27 w_201 (Nat.le_of_ble_eq_true rfl) dX6_isBench_5 rfl (fun v2 => ?_)
    refine q_iconst hC dX6_isBench_8 rfl ?_
    refine q_ic_ne hC 16 dX6_isBench_9 rfl ?_ ?_
    · refine q_iconst hC dX6_isBench_16 rfl ?_
      exact q_zret hC dX6_isBench_17 (Nat.le_of_ble_eq_true rfl) (Nat.le_of_ble_eq_true rfl)
    · refine q_iconst hC dX6_isBench_12 rfl ?_
      refine q_goto hC 17 dX6_isBench_13 rfl ?_
      exact q_zret hC dX6_isBench_17 (Nat.le_of_ble_eq_true rfl) (Nat.le_of_ble_eq_true rfl)
  · exact c_no
theorem sX6_isBench : Snd yX6_isBench (.code yX6_isBench cX6_isBench 2 (some .boolean)) rmX6_isBench SX6_isBench := by
  refine Snd.of lX6_isBench (by decide +kernel) (fun _ => rfl) ?_
  intro Γ hC hnt hnm J hJ L a
  match L with
  | 0 => exact pX6_isBench_0 hC hnt J hJ a
  | L + 1 => exact c_no
/-! SpiritWall.joinedWithBench(I)Z -/
theorem dX10_joinedWithBench_0 : decode cX10_joinedWithBench 0 = .ok (.iconst 0, 1) := by decide +kernel
theorem dX10_joinedWithBench_1 : decode cX10_joinedWithBench 1 = .ok (.istore_n 2, 1) := by decide +kernel
theorem dX10_joinedWithBench_2 : decode cX10_joinedWithBench 2 = .ok (.iload_n 2, 1) := by decide +kernel
theorem dX10_joinedWithBench_3 : decode cX10_joinedWithBench 3 = .ok (.aload_n 0, 1) := by decide +kernel
theorem dX10_joinedWithBench_4 : decode cX10_joinedWithBench 4 = .ok (.getfield 24, 3) := by decide +kernel
theorem dX10_joinedWithBench_7 : decode cX10_joinedWithBench 7 = .ok (.getfield 132, 3) := by decide +kernel
theorem dX10_joinedWithBench_10 : decode cX10_joinedWithBench 10 = .ok (.if_icmp .ge 34, 3) := by decide +kernel
theorem dX10_joinedWithBench_13 : decode cX10_joinedWithBench 13 = .ok (.aload_n 0, 1) := by decide +kernel
theorem dX10_joinedWithBench_14 : decode cX10_joinedWithBench 14 = .ok (.getfield 31, 3) := by decide +kernel
theorem dX10_joinedWithBench_17 : decode cX10_joinedWithBench 17 = .ok (.iload_n 2, 1) := by decide +kernel
theorem dX10_joinedWithBench_18 : decode cX10_joinedWithBench 18 = .ok (.invokevirtual 379, 3) := by decide +kernel
theorem dX10_joinedWithBench_21 : decode cX10_joinedWithBench 21 = .ok (.ifCond .eq 17, 3) := by decide +kernel
theorem dX10_joinedWithBench_24 : decode cX10_joinedWithBench 24 = .ok (.aload_n 0, 1) := by decide +kernel
theorem dX10_joinedWithBench_25 : decode cX10_joinedWithBench 25 = .ok (.getfield 71, 3) := by decide +kernel
theorem dX10_joinedWithBench_28 : decode cX10_joinedWithBench 28 = .ok (.iload_n 1, 1) := by decide +kernel
theorem dX10_joinedWithBench_29 : decode cX10_joinedWithBench 29 = .ok (.iload_n 2, 1) := by decide +kernel
theorem dX10_joinedWithBench_30 : decode cX10_joinedWithBench 30 = .ok (.invokevirtual 284, 3) := by decide +kernel
theorem dX10_joinedWithBench_33 : decode cX10_joinedWithBench 33 = .ok (.ifCond .eq 5, 3) := by decide +kernel
theorem dX10_joinedWithBench_36 : decode cX10_joinedWithBench 36 = .ok (.iconst 1, 1) := by decide +kernel
theorem dX10_joinedWithBench_37 : decode cX10_joinedWithBench 37 = .ok (.ireturn, 1) := by decide +kernel
theorem dX10_joinedWithBench_38 : decode cX10_joinedWithBench 38 = .ok (.iinc 2 1, 3) := by decide +kernel
theorem dX10_joinedWithBench_41 : decode cX10_joinedWithBench 41 = .ok (.goto (-39), 3) := by decide +kernel
theorem dX10_joinedWithBench_44 : decode cX10_joinedWithBench 44 = .ok (.iconst 0, 1) := by decide +kernel
theorem dX10_joinedWithBench_45 : decode cX10_joinedWithBench 45 = .ok (.ireturn, 1) := by decide +kernel
def rmX10_joinedWithBench : Room := rmk 8 0 0 193
theorem nX10_joinedWithBench : nameOk yX10_joinedWithBench 1 = true := by decide +kernel
def bX10_joinedWithBench_0 (J : JT) : List Value → Sem
  | [.ref x0, .int x1] =>
    J 1 [.ref x0, .int x1, .int 0]
  | _ => no
def bX10_joinedWithBench_1 (J : JT) : List Value → Sem
  | [.ref x0, .int x1, .int x2] =>
    gR 10 2 x0 fun r1 =>
    gI 9 0 r1 fun v2 =>
    br (v2 ≤ x2)
    (rZ 0)
    (gR 10 3 x0 fun r3 =>
    ob 6 r3 (cI SX6_isBench [.ref r3, .int x2] fun v4 =>
    br (v4 = 0)
    (J 1 [.ref x0, .int x1, .int (x2 + 1)])
    (gR 10 9 x0 fun r5 =>
    ob 1 r5 (cI SX1_joined [.ref r5, .int x1, .int x2] fun v6 =>
    br (v6 = 0)
    (J 1 [.ref x0, .int x1, .int (x2 + 1)])
    (rZ 1)))))
  | _ => no
def bX10_joinedWithBench (J : JT) : JT := fun L a => match L with
  | 0 => bX10_joinedWithBench_0 J a
  | 1 => bX10_joinedWithBench_1 J a
  | _ => no
def SX10_joinedWithBench : ST := mk 3 bX10_joinedWithBench
def lX10_joinedWithBench (L : Nat) (a : List Value) : Nat × Nat × Nat × List (Nat × Value) × List Value := match L with
  | 0 => (0, 0, 0, lv_args 0 a, [])
  | 1 => (0, 0, 2, List.zip [0, 1, 2] a, [])
  | _ => (0, 0, 0, [], [])
theorem pX10_joinedWithBench_0 {Γ : CT} (hC : Ctx Γ "SpiritWall" cX10_joinedWithBench 3 (some .boolean) rmX10_joinedWithBench) (hnt : NT Γ) (J : JT) (hJ : ∀ L a, Cor Γ 3 (lX10_joinedWithBench L a).1 (lX10_joinedWithBench L a).2.1 (lX10_joinedWithBench L a).2.2.1 (lX10_joinedWithBench L a).2.2.2.1 (lX10_joinedWithBench L a).2.2.2.2 (J L a)) (a : List Value) : Cor Γ 3 0 0 0 (lv_args 0 a) [] (bX10_joinedWithBench_0 J a) := by
  unfold bX10_joinedWithBench_0
  split
  · rename_i x0 x1
    refine c_sub [0, 1] rfl (loc' := [(0, .ref x0), (1, .int x1)]) ?_
    refine q_iconst hC dX10_joinedWithBench_0 rfl ?_
    refine q_istore_nA hC (loc' := [(2, .int 0), (0, .ref x0), (1, .int x1)]) dX10_joinedWithBench_1 rfl (Nat.le_of_ble_eq_true rfl) rfl ?_
    exact c_sub [1, 2, 0] rfl (hJ 1 [.ref x0, .int x1, .int 0])
  · exact c_no
theorem pX10_joinedWithBench_1 {Γ : CT} (hC : Ctx Γ "SpiritWall" cX10_joinedWithBench 3 (some .boolean) rmX10_joinedWithBench) (hnt : NT Γ) (J : JT) (hJ : ∀ L a, Cor Γ 3 (lX10_joinedWithBench L a).1 (lX10_joinedWithBench L a).2.1 (lX10_joinedWithBench L a).2.2.1 (lX10_joinedWithBench L a).2.2.2.1 (lX10_joinedWithBench L a).2.2.2.2 (J L a)) (a : List Value) : Cor Γ 3 0 0 2 (List.zip [0, 1, 2] a) [] (bX10_joinedWithBench_1 J a) := by
  unfold bX10_joinedWithBench_1
  split
  · rename_i x0 x1 x2
    refine c_sub [0, 1, 2] rfl (loc' := [(0, .ref x0), (1, .int x1), (2, .int x2)]) ?_
    refine q_iload_n hC 2 dX10_joinedWithBench_2 rfl rfl ?_
    refine q_aload_n hC 0 dX10_joinedWithBench_3 rfl rfl ?_
    refine q_getR hC (by decide) (by decide) rfl w_131 dX10_joinedWithBench_4 (fun r1 => ?_)
    refine q_getI hC (by decide) (by decide) rfl w_346 dX10_joinedWithBench_7 (fun v2 => ?_)
    refine q_ic_ge hC 44 dX10_joinedWithBench_10 rfl ?_ ?_
    · refine q_iconst hC dX10_joinedWithBench_44 rfl ?_
      exact q_zret hC dX10_joinedWithBench_45 (Nat.le_of_ble_eq_true rfl) (Nat.le_of_ble_eq_true rfl)
    · refine q_aload_n hC 0 dX10_joinedWithBench_13 rfl rfl ?_
      refine q_getR hC (by decide) (by decide) rfl w_133 dX10_joinedWithBench_14 (fun r3 => ?_)
      refine q_iload_n hC 2 dX10_joinedWithBench_17 rfl rfl ?_
      refine q_cVI hC hnt (stk := []) (as := [.int x2]) sX6_isBench (ci := 6) (by decide) rfl nX6_isBench rfl w_614 w_616 w_617 w_35 w_615 (Nat.le_of_ble_eq_true rfl) dX10_joinedWithBench_18 rfl (fun v4 => ?_)
      refine q_if_eq hC 38 dX10_joinedWithBench_21 rfl ?_ ?_
      · refine q_iincA hC (loc' := [(2, .int (x2 + 1)), (0, .ref x0), (1, .int x1)]) 2 1 dX10_joinedWithBench_38 rfl rfl (Nat.le_of_ble_eq_true rfl) rfl ?_
        refine q_goto hC 2 dX10_joinedWithBench_41 rfl ?_
        exact c_sub [1, 2, 0] rfl (hJ 1 [.ref x0, .int x1, .int (x2 + 1)])
      · refine q_aload_n hC 0 dX10_joinedWithBench_24 rfl rfl ?_
        refine q_getR hC (by decide) (by decide) rfl w_155 dX10_joinedWithBench_25 (fun r5 => ?_)
        refine q_iload_n hC 1 dX10_joinedWithBench_28 rfl rfl ?_
        refine q_iload_n hC 2 dX10_joinedWithBench_29 rfl rfl ?_
        refine q_cVI hC hnt (stk := []) (as := [.int x1, .int x2]) sX1_joined (ci := 1) (by decide) rfl nX1_joined rfl w_618 w_494 w_495 w_154 w_493 (Nat.le_of_ble_eq_true rfl) dX10_joinedWithBench_30 rfl (fun v6 => ?_)
        refine q_if_eq hC 38 dX10_joinedWithBench_33 rfl ?_ ?_
        · refine q_iincA hC (loc' := [(2, .int (x2 + 1)), (0, .ref x0), (1, .int x1)]) 2 1 dX10_joinedWithBench_38 rfl rfl (Nat.le_of_ble_eq_true rfl) rfl ?_
          refine q_goto hC 2 dX10_joinedWithBench_41 rfl ?_
          exact c_sub [1, 2, 0] rfl (hJ 1 [.ref x0, .int x1, .int (x2 + 1)])
        · refine q_iconst hC dX10_joinedWithBench_36 rfl ?_
          exact q_zret hC dX10_joinedWithBench_37 (Nat.le_of_ble_eq_true rfl) (Nat.le_of_ble_eq_true rfl)
  · exact c_no
theorem sX10_joinedWithBench : Snd yX10_joinedWithBench (.code yX10_joinedWithBench cX10_joinedWithBench 3 (some .boolean)) rmX10_joinedWithBench SX10_joinedWithBench := by
  refine Snd.of lX10_joinedWithBench (by decide +kernel) (fun _ => rfl) ?_
  intro Γ hC hnt hnm J hJ L a
  match L with
  | 0 => exact pX10_joinedWithBench_0 hC hnt J hJ a
  | 1 => exact pX10_joinedWithBench_1 hC hnt J hJ a
  | L + 2 => exact c_no
