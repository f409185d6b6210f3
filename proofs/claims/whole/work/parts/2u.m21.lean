/-! SpiritWallModel.printLoop(I)I -/
theorem dX11_printLoop_0 : decode cX11_printLoop 0 = .ok (.aload_n 0, 1) := by decide +kernel
theorem dX11_printLoop_1 : decode cX11_printLoop 1 = .ok (.aload_n 0, 1) := by decide +kernel
theorem dX11_printLoop_2 : decode cX11_printLoop 2 = .ok (.iload_n 1, 1) := by decide +kernel
theorem dX11_printLoop_3 : decode cX11_printLoop 3 = .ok (.invokevirtual 313, 3) := by decide +kernel
theorem dX11_printLoop_6 : decode cX11_printLoop 6 = .ok (.invokevirtual 77, 3) := by decide +kernel
theorem dX11_printLoop_9 : decode cX11_printLoop 9 = .ok (.ifCond .ne 5, 3) := by decide +kernel
theorem dX11_printLoop_12 : decode cX11_printLoop 12 = .ok (.iconst 0, 1) := by decide +kernel
theorem dX11_printLoop_13 : decode cX11_printLoop 13 = .ok (.ireturn, 1) := by decide +kernel
theorem dX11_printLoop_14 : decode cX11_printLoop 14 = .ok (.aload_n 0, 1) := by decide +kernel
theorem dX11_printLoop_15 : decode cX11_printLoop 15 = .ok (.iconst 0, 1) := by decide +kernel
theorem dX11_printLoop_16 : decode cX11_printLoop 16 = .ok (.putfield 496, 3) := by decide +kernel
theorem dX11_printLoop_19 : decode cX11_printLoop 19 = .ok (.aload_n 0, 1) := by decide +kernel
theorem dX11_printLoop_20 : decode cX11_printLoop 20 = .ok (.iload_n 1, 1) := by decide +kernel
theorem dX11_printLoop_21 : decode cX11_printLoop 21 = .ok (.invokevirtual 214, 3) := by decide +kernel
theorem dX11_printLoop_24 : decode cX11_printLoop 24 = .ok (.aload_n 0, 1) := by decide +kernel
theorem dX11_printLoop_25 : decode cX11_printLoop 25 = .ok (.aload_n 0, 1) := by decide +kernel
theorem dX11_printLoop_26 : decode cX11_printLoop 26 = .ok (.aload_n 0, 1) := by decide +kernel
theorem dX11_printLoop_27 : decode cX11_printLoop 27 = .ok (.iload_n 1, 1) := by decide +kernel
theorem dX11_printLoop_28 : decode cX11_printLoop 28 = .ok (.invokevirtual 208, 3) := by decide +kernel
theorem dX11_printLoop_31 : decode cX11_printLoop 31 = .ok (.bipush 12, 2) := by decide +kernel
theorem dX11_printLoop_33 : decode cX11_printLoop 33 = .ok (.idiv, 1) := by decide +kernel
theorem dX11_printLoop_34 : decode cX11_printLoop 34 = .ok (.iconst 0, 1) := by decide +kernel
theorem dX11_printLoop_35 : decode cX11_printLoop 35 = .ok (.invokevirtual 104, 3) := by decide +kernel
theorem dX11_printLoop_38 : decode cX11_printLoop 38 = .ok (.invokevirtual 505, 3) := by decide +kernel
theorem dX11_printLoop_41 : decode cX11_printLoop 41 = .ok (.iconst 0, 1) := by decide +kernel
theorem dX11_printLoop_42 : decode cX11_printLoop 42 = .ok (.istore_n 2, 1) := by decide +kernel
theorem dX11_printLoop_43 : decode cX11_printLoop 43 = .ok (.iload_n 2, 1) := by decide +kernel
theorem dX11_printLoop_44 : decode cX11_printLoop 44 = .ok (.aload_n 0, 1) := by decide +kernel
theorem dX11_printLoop_45 : decode cX11_printLoop 45 = .ok (.getfield 192, 3) := by decide +kernel
theorem dX11_printLoop_48 : decode cX11_printLoop 48 = .ok (.iconst 1, 1) := by decide +kernel
theorem dX11_printLoop_49 : decode cX11_printLoop 49 = .ok (.isub, 1) := by decide +kernel
theorem dX11_printLoop_50 : decode cX11_printLoop 50 = .ok (.if_icmp .ge 30, 3) := by decide +kernel
theorem dX11_printLoop_53 : decode cX11_printLoop 53 = .ok (.aload_n 0, 1) := by decide +kernel
theorem dX11_printLoop_54 : decode cX11_printLoop 54 = .ok (.bipush 47, 2) := by decide +kernel
theorem dX11_printLoop_56 : decode cX11_printLoop 56 = .ok (.invokevirtual 502, 3) := by decide +kernel
theorem dX11_printLoop_59 : decode cX11_printLoop 59 = .ok (.aload_n 0, 1) := by decide +kernel
theorem dX11_printLoop_60 : decode cX11_printLoop 60 = .ok (.aload_n 0, 1) := by decide +kernel
theorem dX11_printLoop_61 : decode cX11_printLoop 61 = .ok (.aload_n 0, 1) := by decide +kernel
theorem dX11_printLoop_62 : decode cX11_printLoop 62 = .ok (.getfield 47, 3) := by decide +kernel
theorem dX11_printLoop_65 : decode cX11_printLoop 65 = .ok (.iload_n 2, 1) := by decide +kernel
theorem dX11_printLoop_66 : decode cX11_printLoop 66 = .ok (.iaload, 1) := by decide +kernel
theorem dX11_printLoop_67 : decode cX11_printLoop 67 = .ok (.iconst 0, 1) := by decide +kernel
theorem dX11_printLoop_68 : decode cX11_printLoop 68 = .ok (.invokevirtual 104, 3) := by decide +kernel
theorem dX11_printLoop_71 : decode cX11_printLoop 71 = .ok (.invokevirtual 505, 3) := by decide +kernel
theorem dX11_printLoop_74 : decode cX11_printLoop 74 = .ok (.iinc 2 1, 3) := by decide +kernel
theorem dX11_printLoop_77 : decode cX11_printLoop 77 = .ok (.goto (-34), 3) := by decide +kernel
theorem dX11_printLoop_80 : decode cX11_printLoop 80 = .ok (.aload_n 0, 1) := by decide +kernel
theorem dX11_printLoop_81 : decode cX11_printLoop 81 = .ok (.bipush 32, 2) := by decide +kernel
theorem dX11_printLoop_83 : decode cX11_printLoop 83 = .ok (.invokevirtual 502, 3) := by decide +kernel
theorem dX11_printLoop_86 : decode cX11_printLoop 86 = .ok (.aload_n 0, 1) := by decide +kernel
theorem dX11_printLoop_87 : decode cX11_printLoop 87 = .ok (.aload_n 0, 1) := by decide +kernel
theorem dX11_printLoop_88 : decode cX11_printLoop 88 = .ok (.iload_n 1, 1) := by decide +kernel
theorem dX11_printLoop_89 : decode cX11_printLoop 89 = .ok (.invokevirtual 224, 3) := by decide +kernel
theorem dX11_printLoop_92 : decode cX11_printLoop 92 = .ok (.invokevirtual 508, 3) := by decide +kernel
theorem dX11_printLoop_95 : decode cX11_printLoop 95 = .ok (.aload_n 0, 1) := by decide +kernel
theorem dX11_printLoop_96 : decode cX11_printLoop 96 = .ok (.iload_n 1, 1) := by decide +kernel
theorem dX11_printLoop_97 : decode cX11_printLoop 97 = .ok (.invokevirtual 238, 3) := by decide +kernel
theorem dX11_printLoop_100 : decode cX11_printLoop 100 = .ok (.ifCond .ne 9, 3) := by decide +kernel
theorem dX11_printLoop_103 : decode cX11_printLoop 103 = .ok (.aload_n 0, 1) := by decide +kernel
theorem dX11_printLoop_104 : decode cX11_printLoop 104 = .ok (.bipush 33, 2) := by decide +kernel
theorem dX11_printLoop_106 : decode cX11_printLoop 106 = .ok (.invokevirtual 502, 3) := by decide +kernel
theorem dX11_printLoop_109 : decode cX11_printLoop 109 = .ok (.aload_n 0, 1) := by decide +kernel
theorem dX11_printLoop_110 : decode cX11_printLoop 110 = .ok (.getfield 496, 3) := by decide +kernel
theorem dX11_printLoop_113 : decode cX11_printLoop 113 = .ok (.ireturn, 1) := by decide +kernel
def rmX11_printLoop : Room := rmk 26 0 0 619
theorem nX11_printLoop : nameOk yX11_printLoop 1 = true := by decide +kernel
def bX11_printLoop_0 (J : JT) : List Value → Sem
  | [.ref x0, .int x1] =>
    ob 11 x0 (cI SX11_isLoop [.ref x0, .int x1] fun v1 =>
    ob 11 x0 (cI SX11_is [.ref x0, .int v1] fun v2 =>
    br (v2 = 0)
    (rI 0)
    (pI 11 31 x0 0 <|
    ob 11 x0 (cV SX11_goesLoop [.ref x0, .int x1] <|
    ob 11 x0 (cI SX11_loopEdge [.ref x0, .int x1] fun v3 =>
    nz 12 <|
    ob 11 x0 (cI SX11_of [.ref x0, .int (v3 / 12), .int 0] fun v4 =>
    ob 11 x0 (cV (SX11_saysLetters 7) [.ref x0, .int v4] <|
    J 1 [.ref x0, .int x1, .int 0])))))))
  | _ => no
def bX11_printLoop_1 (J : JT) : List Value → Sem
  | [.ref x0, .int x1, .int x2] =>
    gI 11 17 x0 fun v1 =>
    br ((v1 - 1) ≤ x2)
    (ob 11 x0 (cV SX11_says [.ref x0, .int 32] <|
    ob 11 x0 (cI SX11_misclosure [.ref x0, .int x1] fun v2 =>
    ob 11 x0 (cV SX11_saysNumber [.ref x0, .int v2] <|
    ob 11 x0 (cI SX11_closes [.ref x0, .int x1] fun v3 =>
    br (v3 = 0)
    (ob 11 x0 (cV SX11_says [.ref x0, .int 33] <|
    gI 11 31 x0 fun v5 =>
    rI v5))
    (gI 11 31 x0 fun v4 =>
    rI v4))))))
    (ob 11 x0 (cV SX11_says [.ref x0, .int 47] <|
    gR 11 16 x0 fun r6 =>
    aI r6 x2 fun v7 =>
    ob 11 x0 (cI SX11_of [.ref x0, .int v7, .int 0] fun v8 =>
    ob 11 x0 (cV (SX11_saysLetters 7) [.ref x0, .int v8] <|
    J 1 [.ref x0, .int x1, .int (x2 + 1)]))))
  | _ => no
def bX11_printLoop (J : JT) : JT := fun L a => match L with
  | 0 => bX11_printLoop_0 J a
  | 1 => bX11_printLoop_1 J a
  | _ => no
def SX11_printLoop : ST := mk 3 bX11_printLoop
def lX11_printLoop (L : Nat) (a : List Value) : Nat × Nat × Nat × List (Nat × Value) × List Value := match L with
  | 0 => (0, 0, 0, lv_args 0 a, [])
  | 1 => (0, 0, 43, List.zip [0, 1, 2] a, [])
  | _ => (0, 0, 0, [], [])
theorem pX11_printLoop_0 {Γ : CT} (hC : Ctx Γ "SpiritWallModel" cX11_printLoop 3 (some .int) rmX11_printLoop) (hnt : NT Γ) (J : JT) (hJ : ∀ L a, Cor Γ 3 (lX11_printLoop L a).1 (lX11_printLoop L a).2.1 (lX11_printLoop L a).2.2.1 (lX11_printLoop L a).2.2.2.1 (lX11_printLoop L a).2.2.2.2 (J L a)) (a : List Value) : Cor Γ 3 0 0 0 (lv_args 0 a) [] (bX11_printLoop_0 J a) := by
  unfold bX11_printLoop_0
  split
  · rename_i x0 x1
    refine c_sub [0, 1] rfl (loc' := [(0, .ref x0), (1, .int x1)]) ?_
    refine q_aload_n hC 0 dX11_printLoop_0 rfl rfl ?_
    refine q_aload_n hC 0 dX11_printLoop_1 rfl rfl ?_
    refine q_iload_n hC 1 dX11_printLoop_2 rfl rfl ?_
    refine q_cVI hC hnt (stk := [.ref x0]) (as := [.int x1]) sX11_isLoop (ci := 11) (by decide) rfl nX11_isLoop rfl w_1099 w_1101 w_1102 w_830 w_1100 (Nat.le_of_ble_eq_true rfl) dX11_printLoop_3 rfl (fun v1 => ?_)
    refine q_cVI hC hnt (stk := []) (as := [.int v1]) sX11_is (ci := 11) (by decide) rfl nX11_is rfl w_838 w_840 w_841 w_830 w_839 (Nat.le_of_ble_eq_true rfl) dX11_printLoop_6 rfl (fun v2 => ?_)
    refine q_if_ne hC 14 dX11_printLoop_9 rfl ?_ ?_
    · refine q_aload_n hC 0 dX11_printLoop_14 rfl rfl ?_
      refine q_iconst hC dX11_printLoop_15 rfl ?_
      refine q_putI hC (by decide) (by decide) rfl rfl w_1270 dX11_printLoop_16 ?_
      refine q_aload_n hC 0 dX11_printLoop_19 rfl rfl ?_
      refine q_iload_n hC 1 dX11_printLoop_20 rfl rfl ?_
      refine q_cVV hC hnt (stk := []) (as := [.int x1]) sX11_goesLoop (ci := 11) (by decide) rfl nX11_goesLoop rfl w_979 w_981 w_982 w_830 w_980 (Nat.le_of_ble_eq_true rfl) dX11_printLoop_21 rfl ?_
      refine q_aload_n hC 0 dX11_printLoop_24 rfl rfl ?_
      refine q_aload_n hC 0 dX11_printLoop_25 rfl rfl ?_
      refine q_aload_n hC 0 dX11_printLoop_26 rfl rfl ?_
      refine q_iload_n hC 1 dX11_printLoop_27 rfl rfl ?_
      refine q_cVI hC hnt (stk := [.ref x0, .ref x0]) (as := [.int x1]) sX11_loopEdge (ci := 11) (by decide) rfl nX11_loopEdge rfl w_971 w_973 w_974 w_830 w_972 (Nat.le_of_ble_eq_true rfl) dX11_printLoop_28 rfl (fun v3 => ?_)
      refine q_bipush hC (v := 12) dX11_printLoop_31 rfl ?_
      refine q_idiv hC dX11_printLoop_33 ?_
      refine q_iconst hC dX11_printLoop_34 rfl ?_
      refine q_cVI hC hnt (stk := [.ref x0]) (as := [.int (v3 / 12), .int 0]) sX11_of (ci := 11) (by decide) rfl nX11_of rfl w_862 w_864 w_865 w_830 w_863 (Nat.le_of_ble_eq_true rfl) dX11_printLoop_35 rfl (fun v4 => ?_)
      refine q_cVV hC hnt (stk := []) (as := [.int v4]) (sX11_saysLetters 7) (ci := 11) (by decide) rfl nX11_saysLetters rfl w_1279 w_1281 w_1282 w_830 w_1280 (Nat.le_of_ble_eq_true rfl) dX11_printLoop_38 rfl ?_
      refine q_iconst hC dX11_printLoop_41 rfl ?_
      refine q_istore_nA hC (loc' := [(2, .int 0), (0, .ref x0), (1, .int x1)]) dX11_printLoop_42 rfl (Nat.le_of_ble_eq_true rfl) rfl ?_
      exact c_sub [1, 2, 0] rfl (hJ 1 [.ref x0, .int x1, .int 0])
    · refine q_iconst hC dX11_printLoop_12 rfl ?_
      exact q_iret hC dX11_printLoop_13 (Nat.le_of_ble_eq_true rfl) (Nat.le_of_ble_eq_true rfl)
  · exact c_no
theorem pX11_printLoop_1 {Γ : CT} (hC : Ctx Γ "SpiritWallModel" cX11_printLoop 3 (some .int) rmX11_printLoop) (hnt : NT Γ) (J : JT) (hJ : ∀ L a, Cor Γ 3 (lX11_printLoop L a).1 (lX11_printLoop L a).2.1 (lX11_printLoop L a).2.2.1 (lX11_printLoop L a).2.2.2.1 (lX11_printLoop L a).2.2.2.2 (J L a)) (a : List Value) : Cor Γ 3 0 0 43 (List.zip [0, 1, 2] a) [] (bX11_printLoop_1 J a) := by
  unfold bX11_printLoop_1
  split
  · rename_i x0 x1 x2
    refine c_sub [0, 1, 2] rfl (loc' := [(0, .ref x0), (1, .int x1), (2, .int x2)]) ?_
    refine q_iload_n hC 2 dX11_printLoop_43 rfl rfl ?_
    refine q_aload_n hC 0 dX11_printLoop_44 rfl rfl ?_
    refine q_getI hC (by decide) (by decide) rfl w_954 dX11_printLoop_45 (fun v1 => ?_)
    refine q_iconst hC dX11_printLoop_48 rfl ?_
    refine q_isub hC dX11_printLoop_49 ?_
    refine q_ic_ge hC 80 dX11_printLoop_50 rfl ?_ ?_
    · refine q_aload_n hC 0 dX11_printLoop_80 rfl rfl ?_
      refine q_bipush hC (v := 32) dX11_printLoop_81 rfl ?_
      refine q_cVV hC hnt (stk := []) (as := [.int 32]) sX11_says (ci := 11) (by decide) rfl nX11_says rfl w_1271 w_1273 w_1274 w_830 w_1272 (Nat.le_of_ble_eq_true rfl) dX11_printLoop_83 rfl ?_
      refine q_aload_n hC 0 dX11_printLoop_86 rfl rfl ?_
      refine q_aload_n hC 0 dX11_printLoop_87 rfl rfl ?_
      refine q_iload_n hC 1 dX11_printLoop_88 rfl rfl ?_
      refine q_cVI hC hnt (stk := [.ref x0]) (as := [.int x1]) sX11_misclosure (ci := 11) (by decide) rfl nX11_misclosure rfl w_991 w_993 w_994 w_830 w_992 (Nat.le_of_ble_eq_true rfl) dX11_printLoop_89 rfl (fun v2 => ?_)
      refine q_cVV hC hnt (stk := []) (as := [.int v2]) sX11_saysNumber (ci := 11) (by decide) rfl nX11_saysNumber rfl w_1283 w_1285 w_1286 w_830 w_1284 (Nat.le_of_ble_eq_true rfl) dX11_printLoop_92 rfl ?_
      refine q_aload_n hC 0 dX11_printLoop_95 rfl rfl ?_
      refine q_iload_n hC 1 dX11_printLoop_96 rfl rfl ?_
      refine q_cVI hC hnt (stk := []) (as := [.int x1]) sX11_closes (ci := 11) (by decide) rfl nX11_closes rfl w_1008 w_1010 w_1011 w_830 w_1009 (Nat.le_of_ble_eq_true rfl) dX11_printLoop_97 rfl (fun v3 => ?_)
      refine q_if_ne hC 109 dX11_printLoop_100 rfl ?_ ?_
      · refine q_aload_n hC 0 dX11_printLoop_109 rfl rfl ?_
        refine q_getI hC (by decide) (by decide) rfl w_1270 dX11_printLoop_110 (fun v4 => ?_)
        exact q_iret hC dX11_printLoop_113 (Nat.le_of_ble_eq_true rfl) (Nat.le_of_ble_eq_true rfl)
      · refine q_aload_n hC 0 dX11_printLoop_103 rfl rfl ?_
        refine q_bipush hC (v := 33) dX11_printLoop_104 rfl ?_
        refine q_cVV hC hnt (stk := []) (as := [.int 33]) sX11_says (ci := 11) (by decide) rfl nX11_says rfl w_1271 w_1273 w_1274 w_830 w_1272 (Nat.le_of_ble_eq_true rfl) dX11_printLoop_106 rfl ?_
        refine q_aload_n hC 0 dX11_printLoop_109 rfl rfl ?_
        refine q_getI hC (by decide) (by decide) rfl w_1270 dX11_printLoop_110 (fun v5 => ?_)
        exact q_iret hC dX11_printLoop_113 (Nat.le_of_ble_eq_true rfl) (Nat.le_of_ble_eq_true rfl)
    · refine q_aload_n hC 0 dX11_printLoop_53 rfl rfl ?_
      refine q_bipush hC (v := 47) dX11_printLoop_54 rfl ?_
      refine q_cVV hC hnt (stk := []) (as := [.int 47]) sX11_says (ci := 11) (by decide) rfl nX11_says rfl w_1271 w_1273 w_1274 w_830 w_1272 (Nat.le_of_ble_eq_true rfl) dX11_printLoop_56 rfl ?_
      refine q_aload_n hC 0 dX11_printLoop_59 rfl rfl ?_
      refine q_aload_n hC 0 dX11_printLoop_60 rfl rfl ?_
      refine q_aload_n hC 0 dX11_printLoop_61 rfl rfl ?_
      refine q_getR hC (by decide) (by decide) rfl w_821 dX11_printLoop_62 (fun r6 => ?_)
      refine q_iload_n hC 2 dX11_printLoop_65 rfl rfl ?_
      refine q_iald hC dX11_printLoop_66 (fun v7 => ?_)
      refine q_iconst hC dX11_printLoop_67 rfl ?_
      refine q_cVI hC hnt (stk := [.ref x0]) (as := [.int v7, .int 0]) sX11_of (ci := 11) (by decide) rfl nX11_of rfl w_862 w_864 w_865 w_830 w_863 (Nat.le_of_ble_eq_true rfl) dX11_printLoop_68 rfl (fun v8 => ?_)
      refine q_cVV hC hnt (stk := []) (as := [.int v8]) (sX11_saysLetters 7) (ci := 11) (by decide) rfl nX11_saysLetters rfl w_1279 w_1281 w_1282 w_830 w_1280 (Nat.le_of_ble_eq_true rfl) dX11_printLoop_71 rfl ?_
      refine q_iincA hC (loc' := [(2, .int (x2 + 1)), (0, .ref x0), (1, .int x1)]) 2 1 dX11_printLoop_74 rfl rfl (Nat.le_of_ble_eq_true rfl) rfl ?_
      refine q_goto hC 43 dX11_printLoop_77 rfl ?_
      exact c_sub [1, 2, 0] rfl (hJ 1 [.ref x0, .int x1, .int (x2 + 1)])
  · exact c_no
theorem sX11_printLoop : Snd yX11_printLoop (.code yX11_printLoop cX11_printLoop 3 (some .int)) rmX11_printLoop SX11_printLoop := by
  refine Snd.of lX11_printLoop (by decide +kernel) (fun _ => rfl) ?_
  intro Γ hC hnt hnm J hJ L a
  match L with
  | 0 => exact pX11_printLoop_0 hC hnt J hJ a
  | 1 => exact pX11_printLoop_1 hC hnt J hJ a
  | L + 2 => exact c_no
/-! SpiritWallModel.printSight(I)I -/
theorem dX11_printSight_0 : decode cX11_printSight 0 = .ok (.aload_n 0, 1) := by decide +kernel
theorem dX11_printSight_1 : decode cX11_printSight 1 = .ok (.aload_n 0, 1) := by decide +kernel
theorem dX11_printSight_2 : decode cX11_printSight 2 = .ok (.iload_n 1, 1) := by decide +kernel
theorem dX11_printSight_3 : decode cX11_printSight 3 = .ok (.invokevirtual 296, 3) := by decide +kernel
theorem dX11_printSight_6 : decode cX11_printSight 6 = .ok (.invokevirtual 77, 3) := by decide +kernel
theorem dX11_printSight_9 : decode cX11_printSight 9 = .ok (.ifCond .ne 5, 3) := by decide +kernel
theorem dX11_printSight_12 : decode cX11_printSight 12 = .ok (.iconst 0, 1) := by decide +kernel
theorem dX11_printSight_13 : decode cX11_printSight 13 = .ok (.ireturn, 1) := by decide +kernel
theorem dX11_printSight_14 : decode cX11_printSight 14 = .ok (.aload_n 0, 1) := by decide +kernel
theorem dX11_printSight_15 : decode cX11_printSight 15 = .ok (.iconst 0, 1) := by decide +kernel
theorem dX11_printSight_16 : decode cX11_printSight 16 = .ok (.putfield 496, 3) := by decide +kernel
theorem dX11_printSight_19 : decode cX11_printSight 19 = .ok (.aload_n 0, 1) := by decide +kernel
theorem dX11_printSight_20 : decode cX11_printSight 20 = .ok (.iload_n 1, 1) := by decide +kernel
theorem dX11_printSight_21 : decode cX11_printSight 21 = .ok (.invokevirtual 141, 3) := by decide +kernel
theorem dX11_printSight_24 : decode cX11_printSight 24 = .ok (.ifCond .ne 10, 3) := by decide +kernel
theorem dX11_printSight_27 : decode cX11_printSight 27 = .ok (.aload_n 0, 1) := by decide +kernel
theorem dX11_printSight_28 : decode cX11_printSight 28 = .ok (.ldc_w 511, 3) := by decide +kernel
theorem dX11_printSight_31 : decode cX11_printSight 31 = .ok (.invokevirtual 513, 3) := by decide +kernel
theorem dX11_printSight_34 : decode cX11_printSight 34 = .ok (.aload_n 0, 1) := by decide +kernel
theorem dX11_printSight_35 : decode cX11_printSight 35 = .ok (.ldc_w 517, 3) := by decide +kernel
theorem dX11_printSight_38 : decode cX11_printSight 38 = .ok (.invokevirtual 513, 3) := by decide +kernel
theorem dX11_printSight_41 : decode cX11_printSight 41 = .ok (.aload_n 0, 1) := by decide +kernel
theorem dX11_printSight_42 : decode cX11_printSight 42 = .ok (.aload_n 0, 1) := by decide +kernel
theorem dX11_printSight_43 : decode cX11_printSight 43 = .ok (.aload_n 0, 1) := by decide +kernel
theorem dX11_printSight_44 : decode cX11_printSight 44 = .ok (.iload_n 1, 1) := by decide +kernel
theorem dX11_printSight_45 : decode cX11_printSight 45 = .ok (.iconst 0, 1) := by decide +kernel
theorem dX11_printSight_46 : decode cX11_printSight 46 = .ok (.invokevirtual 100, 3) := by decide +kernel
theorem dX11_printSight_49 : decode cX11_printSight 49 = .ok (.iconst 0, 1) := by decide +kernel
theorem dX11_printSight_50 : decode cX11_printSight 50 = .ok (.invokevirtual 104, 3) := by decide +kernel
theorem dX11_printSight_53 : decode cX11_printSight 53 = .ok (.invokevirtual 505, 3) := by decide +kernel
theorem dX11_printSight_56 : decode cX11_printSight 56 = .ok (.aload_n 0, 1) := by decide +kernel
theorem dX11_printSight_57 : decode cX11_printSight 57 = .ok (.bipush 32, 2) := by decide +kernel
theorem dX11_printSight_59 : decode cX11_printSight 59 = .ok (.invokevirtual 502, 3) := by decide +kernel
theorem dX11_printSight_62 : decode cX11_printSight 62 = .ok (.aload_n 0, 1) := by decide +kernel
theorem dX11_printSight_63 : decode cX11_printSight 63 = .ok (.aload_n 0, 1) := by decide +kernel
theorem dX11_printSight_64 : decode cX11_printSight 64 = .ok (.aload_n 0, 1) := by decide +kernel
theorem dX11_printSight_65 : decode cX11_printSight 65 = .ok (.iload_n 1, 1) := by decide +kernel
theorem dX11_printSight_66 : decode cX11_printSight 66 = .ok (.iconst 1, 1) := by decide +kernel
theorem dX11_printSight_67 : decode cX11_printSight 67 = .ok (.invokevirtual 100, 3) := by decide +kernel
theorem dX11_printSight_70 : decode cX11_printSight 70 = .ok (.iconst 0, 1) := by decide +kernel
theorem dX11_printSight_71 : decode cX11_printSight 71 = .ok (.invokevirtual 104, 3) := by decide +kernel
theorem dX11_printSight_74 : decode cX11_printSight 74 = .ok (.invokevirtual 505, 3) := by decide +kernel
theorem dX11_printSight_77 : decode cX11_printSight 77 = .ok (.aload_n 0, 1) := by decide +kernel
theorem dX11_printSight_78 : decode cX11_printSight 78 = .ok (.aload_n 0, 1) := by decide +kernel
theorem dX11_printSight_79 : decode cX11_printSight 79 = .ok (.iload_n 1, 1) := by decide +kernel
theorem dX11_printSight_80 : decode cX11_printSight 80 = .ok (.iconst 2, 1) := by decide +kernel
theorem dX11_printSight_81 : decode cX11_printSight 81 = .ok (.invokevirtual 100, 3) := by decide +kernel
theorem dX11_printSight_84 : decode cX11_printSight 84 = .ok (.ifCond .ne 9, 3) := by decide +kernel
theorem dX11_printSight_87 : decode cX11_printSight 87 = .ok (.ldc_w 519, 3) := by decide +kernel
theorem dX11_printSight_90 : decode cX11_printSight 90 = .ok (.goto 6, 3) := by decide +kernel
theorem dX11_printSight_93 : decode cX11_printSight 93 = .ok (.ldc_w 521, 3) := by decide +kernel
theorem dX11_printSight_96 : decode cX11_printSight 96 = .ok (.invokevirtual 513, 3) := by decide +kernel
theorem dX11_printSight_99 : decode cX11_printSight 99 = .ok (.aload_n 0, 1) := by decide +kernel
theorem dX11_printSight_100 : decode cX11_printSight 100 = .ok (.aload_n 0, 1) := by decide +kernel
theorem dX11_printSight_101 : decode cX11_printSight 101 = .ok (.iload_n 1, 1) := by decide +kernel
theorem dX11_printSight_102 : decode cX11_printSight 102 = .ok (.iconst 3, 1) := by decide +kernel
theorem dX11_printSight_103 : decode cX11_printSight 103 = .ok (.invokevirtual 100, 3) := by decide +kernel
theorem dX11_printSight_106 : decode cX11_printSight 106 = .ok (.invokevirtual 508, 3) := by decide +kernel
theorem dX11_printSight_109 : decode cX11_printSight 109 = .ok (.aload_n 0, 1) := by decide +kernel
theorem dX11_printSight_110 : decode cX11_printSight 110 = .ok (.ldc_w 523, 3) := by decide +kernel
theorem dX11_printSight_113 : decode cX11_printSight 113 = .ok (.invokevirtual 513, 3) := by decide +kernel
theorem dX11_printSight_116 : decode cX11_printSight 116 = .ok (.aload_n 0, 1) := by decide +kernel
theorem dX11_printSight_117 : decode cX11_printSight 117 = .ok (.aload_n 0, 1) := by decide +kernel
theorem dX11_printSight_118 : decode cX11_printSight 118 = .ok (.iload_n 1, 1) := by decide +kernel
theorem dX11_printSight_119 : decode cX11_printSight 119 = .ok (.iconst 4, 1) := by decide +kernel
theorem dX11_printSight_120 : decode cX11_printSight 120 = .ok (.invokevirtual 100, 3) := by decide +kernel
theorem dX11_printSight_123 : decode cX11_printSight 123 = .ok (.invokevirtual 508, 3) := by decide +kernel
theorem dX11_printSight_126 : decode cX11_printSight 126 = .ok (.aload_n 0, 1) := by decide +kernel
theorem dX11_printSight_127 : decode cX11_printSight 127 = .ok (.getfield 496, 3) := by decide +kernel
theorem dX11_printSight_130 : decode cX11_printSight 130 = .ok (.ireturn, 1) := by decide +kernel
def rmX11_printSight : Room := rmk 22 0 0 643
theorem nX11_printSight : nameOk yX11_printSight 1 = true := by decide +kernel
def bX11_printSight_0 (J : JT) : List Value → Sem
  | [.ref x0, .int x1] =>
    ob 11 x0 (cI SX11_isSight [.ref x0, .int x1] fun v1 =>
    ob 11 x0 (cI SX11_is [.ref x0, .int v1] fun v2 =>
    br (v2 = 0)
    (rI 0)
    (pI 11 31 x0 0 <|
    ob 11 x0 (cI SX11_counts [.ref x0, .int x1] fun v3 =>
    br (v3 = 0)
    (ob 11 x0 (cV SX11_saysWord [.ref x0, .ref 2012] <|
    J 1 [.ref x0, .int x1]))
    (J 1 [.ref x0, .int x1])))))
  | _ => no
def bX11_printSight_1 (J : JT) : List Value → Sem
  | [.ref x0, .int x1] =>
    ob 11 x0 (cV SX11_saysWord [.ref x0, .ref 2013] <|
    ob 11 x0 (cI SX11_ofSight [.ref x0, .int x1, .int 0] fun v1 =>
    ob 11 x0 (cI SX11_of [.ref x0, .int v1, .int 0] fun v2 =>
    ob 11 x0 (cV (SX11_saysLetters 7) [.ref x0, .int v2] <|
    ob 11 x0 (cV SX11_says [.ref x0, .int 32] <|
    ob 11 x0 (cI SX11_ofSight [.ref x0, .int x1, .int 1] fun v3 =>
    ob 11 x0 (cI SX11_of [.ref x0, .int v3, .int 0] fun v4 =>
    ob 11 x0 (cV (SX11_saysLetters 7) [.ref x0, .int v4] <|
    ob 11 x0 (cI SX11_ofSight [.ref x0, .int x1, .int 2] fun v5 =>
    br (v5 = 0)
    (ob 11 x0 (cV SX11_saysWord [.ref x0, .ref 2014] <|
    ob 11 x0 (cI SX11_ofSight [.ref x0, .int x1, .int 3] fun v9 =>
    ob 11 x0 (cV SX11_saysNumber [.ref x0, .int v9] <|
    ob 11 x0 (cV SX11_saysWord [.ref x0, .ref 2016] <|
    ob 11 x0 (cI SX11_ofSight [.ref x0, .int x1, .int 4] fun v10 =>
    ob 11 x0 (cV SX11_saysNumber [.ref x0, .int v10] <|
    gI 11 31 x0 fun v11 =>
    rI v11)))))))
    (ob 11 x0 (cV SX11_saysWord [.ref x0, .ref 2015] <|
    ob 11 x0 (cI SX11_ofSight [.ref x0, .int x1, .int 3] fun v6 =>
    ob 11 x0 (cV SX11_saysNumber [.ref x0, .int v6] <|
    ob 11 x0 (cV SX11_saysWord [.ref x0, .ref 2016] <|
    ob 11 x0 (cI SX11_ofSight [.ref x0, .int x1, .int 4] fun v7 =>
    ob 11 x0 (cV SX11_saysNumber [.ref x0, .int v7] <|
    gI 11 31 x0 fun v8 =>
    rI v8))))))))))))))))
  | _ => no
def bX11_printSight (J : JT) : JT := fun L a => match L with
  | 0 => bX11_printSight_0 J a
  | 1 => bX11_printSight_1 J a
  | _ => no
def SX11_printSight : ST := mk 2 bX11_printSight
def lX11_printSight (L : Nat) (a : List Value) : Nat × Nat × Nat × List (Nat × Value) × List Value := match L with
  | 0 => (0, 0, 0, lv_args 0 a, [])
  | 1 => (0, 0, 34, List.zip [0, 1] a, [])
  | _ => (0, 0, 0, [], [])
theorem pX11_printSight_0 {Γ : CT} (hC : Ctx Γ "SpiritWallModel" cX11_printSight 2 (some .int) rmX11_printSight) (hnt : NT Γ) (J : JT) (hJ : ∀ L a, Cor Γ 2 (lX11_printSight L a).1 (lX11_printSight L a).2.1 (lX11_printSight L a).2.2.1 (lX11_printSight L a).2.2.2.1 (lX11_printSight L a).2.2.2.2 (J L a)) (a : List Value) : Cor Γ 2 0 0 0 (lv_args 0 a) [] (bX11_printSight_0 J a) := by
  unfold bX11_printSight_0
  split
  · rename_i x0 x1
    refine c_sub [0, 1] rfl (loc' := [(0, .ref x0), (1, .int x1)]) ?_
    refine q_aload_n hC 0 dX11_printSight_0 rfl rfl ?_
    refine q_aload_n hC 0 dX11_printSight_1 rfl rfl ?_
    refine q_iload_n hC 1 dX11_printSight_2 rfl rfl ?_
    refine q_cVI hC hnt (stk := [.ref x0]) (as := [.int x1]) sX11_isSight (ci := 11) (by decide) rfl nX11_isSight rfl w_1081 w_1083 w_1084 w_830 w_1082 (Nat.le_of_ble_eq_true rfl) dX11_printSight_3 rfl (fun v1 => ?_)
    refine q_cVI hC hnt (stk := []) (as := [.int v1]) sX11_is (ci := 11) (by decide) rfl nX11_is rfl w_838 w_840 w_841 w_830 w_839 (Nat.le_of_ble_eq_true rfl) dX11_printSight_6 rfl (fun v2 => ?_)
    refine q_if_ne hC 14 dX11_printSight_9 rfl ?_ ?_
    · refine q_aload_n hC 0 dX11_printSight_14 rfl rfl ?_
      refine q_iconst hC dX11_printSight_15 rfl ?_
      refine q_putI hC (by decide) (by decide) rfl rfl w_1270 dX11_printSight_16 ?_
      refine q_aload_n hC 0 dX11_printSight_19 rfl rfl ?_
      refine q_iload_n hC 1 dX11_printSight_20 rfl rfl ?_
      refine q_cVI hC hnt (stk := []) (as := [.int x1]) sX11_counts (ci := 11) (by decide) rfl nX11_counts rfl w_895 w_897 w_898 w_830 w_896 (Nat.le_of_ble_eq_true rfl) dX11_printSight_21 rfl (fun v3 => ?_)
      refine q_if_ne hC 34 dX11_printSight_24 rfl ?_ ?_
      · exact c_sub [0, 1] rfl (hJ 1 [.ref x0, .int x1])
      · refine q_aload_n hC 0 dX11_printSight_27 rfl rfl ?_
        refine q_ldcSw hC (i := 12) (tx := "- ") (by decide +kernel) dX11_printSight_28 ?_
        refine q_cVV hC hnt (stk := []) (as := [.ref 2012]) sX11_saysWord (ci := 11) (by decide) rfl nX11_saysWord rfl w_1287 w_1289 w_1290 w_830 w_1288 (Nat.le_of_ble_eq_true rfl) dX11_printSight_31 rfl ?_
        exact c_sub [0, 1] rfl (hJ 1 [.ref x0, .int x1])
    · refine q_iconst hC dX11_printSight_12 rfl ?_
      exact q_iret hC dX11_printSight_13 (Nat.le_of_ble_eq_true rfl) (Nat.le_of_ble_eq_true rfl)
  · exact c_no
theorem pX11_printSight_1 {Γ : CT} (hC : Ctx Γ "SpiritWallModel" cX11_printSight 2 (some .int) rmX11_printSight) (hnt : NT Γ) (J : JT) (hJ : ∀ L a, Cor Γ 2 (lX11_printSight L a).1 (lX11_printSight L a).2.1 (lX11_printSight L a).2.2.1 (lX11_printSight L a).2.2.2.1 (lX11_printSight L a).2.2.2.2 (J L a)) (a : List Value) : Cor Γ 2 0 0 34 (List.zip [0, 1] a) [] (bX11_printSight_1 J a) := by
  unfold bX11_printSight_1
  split
  · rename_i x0 x1
    refine c_sub [0, 1] rfl (loc' := [(0, .ref x0), (1, .int x1)]) ?_
    refine q_aload_n hC 0 dX11_printSight_34 rfl rfl ?_
    refine q_ldcSw hC (i := 13) (tx := "sight ") (by decide +kernel) dX11_printSight_35 ?_
    refine q_cVV hC hnt (stk := []) (as := [.ref 2013]) sX11_saysWord (ci := 11) (by decide) rfl nX11_saysWord rfl w_1287 w_1289 w_1290 w_830 w_1288 (Nat.le_of_ble_eq_true rfl) dX11_printSight_38 rfl ?_
    refine q_aload_n hC 0 dX11_printSight_41 rfl rfl ?_
    refine q_aload_n hC 0 dX11_printSight_42 rfl rfl ?_
    refine q_aload_n hC 0 dX11_printSight_43 rfl rfl ?_
    refine q_iload_n hC 1 dX11_printSight_44 rfl rfl ?_
    refine q_iconst hC dX11_printSight_45 rfl ?_
    refine q_cVI hC hnt (stk := [.ref x0, .ref x0]) (as := [.int x1, .int 0]) sX11_ofSight (ci := 11) (by decide) rfl nX11_ofSight rfl w_858 w_860 w_861 w_830 w_859 (Nat.le_of_ble_eq_true rfl) dX11_printSight_46 rfl (fun v1 => ?_)
    refine q_iconst hC dX11_printSight_49 rfl ?_
    refine q_cVI hC hnt (stk := [.ref x0]) (as := [.int v1, .int 0]) sX11_of (ci := 11) (by decide) rfl nX11_of rfl w_862 w_864 w_865 w_830 w_863 (Nat.le_of_ble_eq_true rfl) dX11_printSight_50 rfl (fun v2 => ?_)
    refine q_cVV hC hnt (stk := []) (as := [.int v2]) (sX11_saysLetters 7) (ci := 11) (by decide) rfl nX11_saysLetters rfl w_1279 w_1281 w_1282 w_830 w_1280 (Nat.le_of_ble_eq_true rfl) dX11_printSight_53 rfl ?_
    refine q_aload_n hC 0 dX11_printSight_56 rfl rfl ?_
    refine q_bipush hC (v := 32) dX11_printSight_57 rfl ?_
    refine q_cVV hC hnt (stk := []) (as := [.int 32]) sX11_says (ci := 11) (by decide) rfl nX11_says rfl w_1271 w_1273 w_1274 w_830 w_1272 (Nat.le_of_ble_eq_true rfl) dX11_printSight_59 rfl ?_
    refine q_aload_n hC 0 dX11_printSight_62 rfl rfl ?_
    refine q_aload_n hC 0 dX11_printSight_63 rfl rfl ?_
    refine q_aload_n hC 0 dX11_printSight_64 rfl rfl ?_
    refine q_iload_n hC 1 dX11_printSight_65 rfl rfl ?_
    refine q_iconst hC dX11_printSight_66 rfl ?_
    refine q_cVI hC hnt (stk := [.ref x0, .ref x0]) (as := [.int x1, .int 1]) sX11_ofSight (ci := 11) (by decide) rfl nX11_ofSight rfl w_858 w_860 w_861 w_830 w_859 (Nat.le_of_ble_eq_true rfl) dX11_printSight_67 rfl (fun v3 => ?_)
    refine q_iconst hC dX11_printSight_70 rfl ?_
    refine q_cVI hC hnt (stk := [.ref x0]) (as := [.int v3, .int 0]) sX11_of (ci := 11) (by decide) rfl nX11_of rfl w_862 w_864 w_865 w_830 w_863 (Nat.le_of_ble_eq_true rfl) dX11_printSight_71 rfl (fun v4 => ?_)
    refine q_cVV hC hnt (stk := []) (as := [.int v4]) (sX11_saysLetters 7) (ci := 11) (by decide) rfl nX11_saysLetters rfl w_1279 w_1281 w_1282 w_830 w_1280 (Nat.le_of_ble_eq_true rfl) dX11_printSight_74 rfl ?_
    refine q_aload_n hC 0 dX11_printSight_77 rfl rfl ?_
    refine q_aload_n hC 0 dX11_printSight_78 rfl rfl ?_
    refine q_iload_n hC 1 dX11_printSight_79 rfl rfl ?_
    refine q_iconst hC dX11_printSight_80 rfl ?_
    refine q_cVI hC hnt (stk := [.ref x0]) (as := [.int x1, .int 2]) sX11_ofSight (ci := 11) (by decide) rfl nX11_ofSight rfl w_858 w_860 w_861 w_830 w_859 (Nat.le_of_ble_eq_true rfl) dX11_printSight_81 rfl (fun v5 => ?_)
    refine q_if_ne hC 93 dX11_printSight_84 rfl ?_ ?_
    · refine q_ldcSw hC (i := 15) (tx := " back ") (by decide +kernel) dX11_printSight_93 ?_
      refine q_cVV hC hnt (stk := []) (as := [.ref 2015]) sX11_saysWord (ci := 11) (by decide) rfl nX11_saysWord rfl w_1287 w_1289 w_1290 w_830 w_1288 (Nat.le_of_ble_eq_true rfl) dX11_printSight_96 rfl ?_
      refine q_aload_n hC 0 dX11_printSight_99 rfl rfl ?_
      refine q_aload_n hC 0 dX11_printSight_100 rfl rfl ?_
      refine q_iload_n hC 1 dX11_printSight_101 rfl rfl ?_
      refine q_iconst hC dX11_printSight_102 rfl ?_
      refine q_cVI hC hnt (stk := [.ref x0]) (as := [.int x1, .int 3]) sX11_ofSight (ci := 11) (by decide) rfl nX11_ofSight rfl w_858 w_860 w_861 w_830 w_859 (Nat.le_of_ble_eq_true rfl) dX11_printSight_103 rfl (fun v6 => ?_)
      refine q_cVV hC hnt (stk := []) (as := [.int v6]) sX11_saysNumber (ci := 11) (by decide) rfl nX11_saysNumber rfl w_1283 w_1285 w_1286 w_830 w_1284 (Nat.le_of_ble_eq_true rfl) dX11_printSight_106 rfl ?_
      refine q_aload_n hC 0 dX11_printSight_109 rfl rfl ?_
      refine q_ldcSw hC (i := 16) (tx := " heat ") (by decide +kernel) dX11_printSight_110 ?_
      refine q_cVV hC hnt (stk := []) (as := [.ref 2016]) sX11_saysWord (ci := 11) (by decide) rfl nX11_saysWord rfl w_1287 w_1289 w_1290 w_830 w_1288 (Nat.le_of_ble_eq_true rfl) dX11_printSight_113 rfl ?_
      refine q_aload_n hC 0 dX11_printSight_116 rfl rfl ?_
      refine q_aload_n hC 0 dX11_printSight_117 rfl rfl ?_
      refine q_iload_n hC 1 dX11_printSight_118 rfl rfl ?_
      refine q_iconst hC dX11_printSight_119 rfl ?_
      refine q_cVI hC hnt (stk := [.ref x0]) (as := [.int x1, .int 4]) sX11_ofSight (ci := 11) (by decide) rfl nX11_ofSight rfl w_858 w_860 w_861 w_830 w_859 (Nat.le_of_ble_eq_true rfl) dX11_printSight_120 rfl (fun v7 => ?_)
      refine q_cVV hC hnt (stk := []) (as := [.int v7]) sX11_saysNumber (ci := 11) (by decide) rfl nX11_saysNumber rfl w_1283 w_1285 w_1286 w_830 w_1284 (Nat.le_of_ble_eq_true rfl) dX11_printSight_123 rfl ?_
      refine q_aload_n hC 0 dX11_printSight_126 rfl rfl ?_
      refine q_getI hC (by decide) (by decide) rfl w_1270 dX11_printSight_127 (fun v8 => ?_)
      exact q_iret hC dX11_printSight_130 (Nat.le_of_ble_eq_true rfl) (Nat.le_of_ble_eq_true rfl)
    · refine q_ldcSw hC (i := 14) (tx := " fore ") (by decide +kernel) dX11_printSight_87 ?_
      refine q_goto hC 96 dX11_printSight_90 rfl ?_
      refine q_cVV hC hnt (stk := []) (as := [.ref 2014]) sX11_saysWord (ci := 11) (by decide) rfl nX11_saysWord rfl w_1287 w_1289 w_1290 w_830 w_1288 (Nat.le_of_ble_eq_true rfl) dX11_printSight_96 rfl ?_
      refine q_aload_n hC 0 dX11_printSight_99 rfl rfl ?_
      refine q_aload_n hC 0 dX11_printSight_100 rfl rfl ?_
      refine q_iload_n hC 1 dX11_printSight_101 rfl rfl ?_
      refine q_iconst hC dX11_printSight_102 rfl ?_
      refine q_cVI hC hnt (stk := [.ref x0]) (as := [.int x1, .int 3]) sX11_ofSight (ci := 11) (by decide) rfl nX11_ofSight rfl w_858 w_860 w_861 w_830 w_859 (Nat.le_of_ble_eq_true rfl) dX11_printSight_103 rfl (fun v9 => ?_)
      refine q_cVV hC hnt (stk := []) (as := [.int v9]) sX11_saysNumber (ci := 11) (by decide) rfl nX11_saysNumber rfl w_1283 w_1285 w_1286 w_830 w_1284 (Nat.le_of_ble_eq_true rfl) dX11_printSight_106 rfl ?_
      refine q_aload_n hC 0 dX11_printSight_109 rfl rfl ?_
      refine q_ldcSw hC (i := 16) (tx := " heat ") (by decide +kernel) dX11_printSight_110 ?_
      refine q_cVV hC hnt (stk := []) (as := [.ref 2016]) sX11_saysWord (ci := 11) (by decide) rfl nX11_saysWord rfl w_1287 w_1289 w_1290 w_830 w_1288 (Nat.le_of_ble_eq_true rfl) dX11_printSight_113 rfl ?_
      refine q_aload_n hC 0 dX11_printSight_116 rfl rfl ?_
      refine q_aload_n hC 0 dX11_printSight_117 rfl rfl ?_
      refine q_iload_n hC 1 dX11_printSight_118 rfl rfl ?_
      refine q_iconst hC dX11_printSight_119 rfl ?_
      refine q_cVI hC hnt (stk := [.ref x0]) (as := [.int x1, .int 4]) sX11_ofSight (ci := 11) (by decide) rfl nX11_ofSight rfl w_858 w_860 w_861 w_830 w_859 (Nat.le_of_ble_eq_true rfl) dX11_printSight_120 rfl (fun v10 => ?_)
      refine q_cVV hC hnt (stk := []) (as := [.int v10]) sX11_saysNumber (ci := 11) (by decide) rfl nX11_saysNumber rfl w_1283 w_1285 w_1286 w_830 w_1284 (Nat.le_of_ble_eq_true rfl) dX11_printSight_123 rfl ?_
      refine q_aload_n hC 0 dX11_printSight_126 rfl rfl ?_
      refine q_getI hC (by decide) (by decide) rfl w_1270 dX11_printSight_127 (fun v11 => ?_)
      exact q_iret hC dX11_printSight_130 (Nat.le_of_ble_eq_true rfl) (Nat.le_of_ble_eq_true rfl)
  · exact c_no
theorem sX11_printSight : Snd yX11_printSight (.code yX11_printSight cX11_printSight 2 (some .int)) rmX11_printSight SX11_printSight := by
  refine Snd.of lX11_printSight (by decide +kernel) (fun _ => rfl) ?_
  intro Γ hC hnt hnm J hJ L a
  match L with
  | 0 => exact pX11_printSight_0 hC hnt J hJ a
  | 1 => exact pX11_printSight_1 hC hnt J hJ a
  | L + 2 => exact c_no
/-! SpiritWallModel.outputByte(I)I -/
theorem dX11_outputByte_0 : decode cX11_outputByte 0 = .ok (.aload_n 0, 1) := by decide +kernel
theorem dX11_outputByte_1 : decode cX11_outputByte 1 = .ok (.iconst 0, 1) := by decide +kernel
theorem dX11_outputByte_2 : decode cX11_outputByte 2 = .ok (.putfield 67, 3) := by decide +kernel
theorem dX11_outputByte_5 : decode cX11_outputByte 5 = .ok (.iload_n 1, 1) := by decide +kernel
theorem dX11_outputByte_6 : decode cX11_outputByte 6 = .ok (.i2l, 1) := by decide +kernel
theorem dX11_outputByte_7 : decode cX11_outputByte 7 = .ok (.lconst 0, 1) := by decide +kernel
theorem dX11_outputByte_8 : decode cX11_outputByte 8 = .ok (.aload_n 0, 1) := by decide +kernel
theorem dX11_outputByte_9 : decode cX11_outputByte 9 = .ok (.getfield 496, 3) := by decide +kernel
theorem dX11_outputByte_12 : decode cX11_outputByte 12 = .ok (.i2l, 1) := by decide +kernel
theorem dX11_outputByte_13 : decode cX11_outputByte 13 = .ok (.lconst 1, 1) := by decide +kernel
theorem dX11_outputByte_14 : decode cX11_outputByte 14 = .ok (.lsub, 1) := by decide +kernel
theorem dX11_outputByte_15 : decode cX11_outputByte 15 = .ok (.invokestatic 89, 3) := by decide +kernel
theorem dX11_outputByte_18 : decode cX11_outputByte 18 = .ok (.ifCond .eq 12, 3) := by decide +kernel
theorem dX11_outputByte_21 : decode cX11_outputByte 21 = .ok (.aload_n 0, 1) := by decide +kernel
theorem dX11_outputByte_22 : decode cX11_outputByte 22 = .ok (.getfield 61, 3) := by decide +kernel
theorem dX11_outputByte_25 : decode cX11_outputByte 25 = .ok (.iload_n 1, 1) := by decide +kernel
theorem dX11_outputByte_26 : decode cX11_outputByte 26 = .ok (.baload, 1) := by decide +kernel
theorem dX11_outputByte_27 : decode cX11_outputByte 27 = .ok (.goto 4, 3) := by decide +kernel
theorem dX11_outputByte_30 : decode cX11_outputByte 30 = .ok (.iconst (-1), 1) := by decide +kernel
theorem dX11_outputByte_31 : decode cX11_outputByte 31 = .ok (.ireturn, 1) := by decide +kernel
def rmX11_outputByte : Room := rmk 7 0 0 175
theorem nX11_outputByte : nameOk yX11_outputByte 1 = true := by decide +kernel
def bX11_outputByte_0 (J : JT) : List Value → Sem
  | [.ref x0, .int x1] =>
    pI 11 0 x0 0 <|
    gI 11 31 x0 fun v1 =>
    cI SX11_isIn [.long (x1.toInt64), .long 0, .long ((v1.toInt64) - 1)] fun v2 =>
    br (v2 = 0)
    (rI (-1))
    (gR 11 30 x0 fun r3 =>
    aB r3 x1 fun v4 =>
    rI v4)
  | _ => no
def bX11_outputByte (J : JT) : JT := fun L a => match L with
  | 0 => bX11_outputByte_0 J a
  | _ => no
def SX11_outputByte : ST := mk 2 bX11_outputByte
def lX11_outputByte (L : Nat) (a : List Value) : Nat × Nat × Nat × List (Nat × Value) × List Value := match L with
  | 0 => (0, 0, 0, lv_args 0 a, [])
  | _ => (0, 0, 0, [], [])
theorem pX11_outputByte_0 {Γ : CT} (hC : Ctx Γ "SpiritWallModel" cX11_outputByte 2 (some .int) rmX11_outputByte) (hnt : NT Γ) (J : JT) (hJ : ∀ L a, Cor Γ 2 (lX11_outputByte L a).1 (lX11_outputByte L a).2.1 (lX11_outputByte L a).2.2.1 (lX11_outputByte L a).2.2.2.1 (lX11_outputByte L a).2.2.2.2 (J L a)) (a : List Value) : Cor Γ 2 0 0 0 (lv_args 0 a) [] (bX11_outputByte_0 J a) := by
  unfold bX11_outputByte_0
  split
  · rename_i x0 x1
    refine c_sub [0, 1] rfl (loc' := [(0, .ref x0), (1, .int x1)]) ?_
    refine q_aload_n hC 0 dX11_outputByte_0 rfl rfl ?_
    refine q_iconst hC dX11_outputByte_1 rfl ?_
    refine q_putI hC (by decide) (by decide) rfl rfl w_833 dX11_outputByte_2 ?_
    refine q_iload_n hC 1 dX11_outputByte_5 rfl rfl ?_
    refine q_i2l hC dX11_outputByte_6 ?_
    refine q_lconst hC (v := 0) dX11_outputByte_7 rfl ?_
    refine q_aload_n hC 0 dX11_outputByte_8 rfl rfl ?_
    refine q_getI hC (by decide) (by decide) rfl w_1270 dX11_outputByte_9 (fun v1 => ?_)
    refine q_i2l hC dX11_outputByte_12 ?_
    refine q_lconst hC (v := 1) dX11_outputByte_13 rfl ?_
    refine q_lsub hC dX11_outputByte_14 ?_
    refine q_cSI hC hnt (stk := []) (as := [.long (x1.toInt64), .long 0, .long ((v1.toInt64) - 1)]) sX11_isIn nX11_isIn rfl w_847 w_849 w_830 w_848 (Nat.le_of_ble_eq_true rfl) dX11_outputByte_15 rfl (fun v2 => ?_)
    refine q_if_eq hC 30 dX11_outputByte_18 rfl ?_ ?_
    · refine q_iconst hC dX11_outputByte_30 rfl ?_
      exact q_iret hC dX11_outputByte_31 (Nat.le_of_ble_eq_true rfl) (Nat.le_of_ble_eq_true rfl)
    · refine q_aload_n hC 0 dX11_outputByte_21 rfl rfl ?_
      refine q_getR hC (by decide) (by decide) rfl w_825 dX11_outputByte_22 (fun r3 => ?_)
      refine q_iload_n hC 1 dX11_outputByte_25 rfl rfl ?_
      refine q_bald hC dX11_outputByte_26 (fun v4 => ?_)
      refine q_goto hC 31 dX11_outputByte_27 rfl ?_
      exact q_iret hC dX11_outputByte_31 (Nat.le_of_ble_eq_true rfl) (Nat.le_of_ble_eq_true rfl)
  · exact c_no
theorem sX11_outputByte : Snd yX11_outputByte (.code yX11_outputByte cX11_outputByte 2 (some .int)) rmX11_outputByte SX11_outputByte := by
  refine Snd.of lX11_outputByte (by decide +kernel) (fun _ => rfl) ?_
  intro Γ hC hnt hnm J hJ L a
  match L with
  | 0 => exact pX11_outputByte_0 hC hnt J hJ a
  | L + 1 => exact c_no
