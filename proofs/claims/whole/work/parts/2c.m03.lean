/-! SpiritWall$Reader.readMarkName(I)I -/
theorem dX5_readMarkName_0 : decode cX5_readMarkName 0 = .ok (.aload_n 0, 1) := by decide +kernel
theorem dX5_readMarkName_1 : decode cX5_readMarkName 1 = .ok (.getfield 44, 3) := by decide +kernel
theorem dX5_readMarkName_4 : decode cX5_readMarkName 4 = .ok (.getfield 61, 3) := by decide +kernel
theorem dX5_readMarkName_7 : decode cX5_readMarkName 7 = .ok (.bipush 11, 2) := by decide +kernel
theorem dX5_readMarkName_9 : decode cX5_readMarkName 9 = .ok (.if_icmp .ne 20, 3) := by decide +kernel
theorem dX5_readMarkName_12 : decode cX5_readMarkName 12 = .ok (.aload_n 0, 1) := by decide +kernel
theorem dX5_readMarkName_13 : decode cX5_readMarkName 13 = .ok (.getfield 12, 3) := by decide +kernel
theorem dX5_readMarkName_16 : decode cX5_readMarkName 16 = .ok (.aload_n 0, 1) := by decide +kernel
theorem dX5_readMarkName_17 : decode cX5_readMarkName 17 = .ok (.getfield 44, 3) := by decide +kernel
theorem dX5_readMarkName_20 : decode cX5_readMarkName 20 = .ok (.getfield 94, 3) := by decide +kernel
theorem dX5_readMarkName_23 : decode cX5_readMarkName 23 = .ok (.invokevirtual 97, 3) := by decide +kernel
theorem dX5_readMarkName_26 : decode cX5_readMarkName 26 = .ok (.goto 4, 3) := by decide +kernel
theorem dX5_readMarkName_29 : decode cX5_readMarkName 29 = .ok (.iconst (-1), 1) := by decide +kernel
theorem dX5_readMarkName_30 : decode cX5_readMarkName 30 = .ok (.istore_n 2, 1) := by decide +kernel
theorem dX5_readMarkName_31 : decode cX5_readMarkName 31 = .ok (.iload_n 2, 1) := by decide +kernel
theorem dX5_readMarkName_32 : decode cX5_readMarkName 32 = .ok (.iconst (-1), 1) := by decide +kernel
theorem dX5_readMarkName_33 : decode cX5_readMarkName 33 = .ok (.if_icmp .eq 17, 3) := by decide +kernel
theorem dX5_readMarkName_36 : decode cX5_readMarkName 36 = .ok (.iload_n 2, 1) := by decide +kernel
theorem dX5_readMarkName_37 : decode cX5_readMarkName 37 = .ok (.iload_n 1, 1) := by decide +kernel
theorem dX5_readMarkName_38 : decode cX5_readMarkName 38 = .ok (.if_icmp .eq 12, 3) := by decide +kernel
theorem dX5_readMarkName_41 : decode cX5_readMarkName 41 = .ok (.aload_n 0, 1) := by decide +kernel
theorem dX5_readMarkName_42 : decode cX5_readMarkName 42 = .ok (.getfield 44, 3) := by decide +kernel
theorem dX5_readMarkName_45 : decode cX5_readMarkName 45 = .ok (.invokevirtual 78, 3) := by decide +kernel
theorem dX5_readMarkName_48 : decode cX5_readMarkName 48 = .ok (.iload_n 2, 1) := by decide +kernel
theorem dX5_readMarkName_49 : decode cX5_readMarkName 49 = .ok (.ireturn, 1) := by decide +kernel
theorem dX5_readMarkName_50 : decode cX5_readMarkName 50 = .ok (.aload_n 0, 1) := by decide +kernel
theorem dX5_readMarkName_51 : decode cX5_readMarkName 51 = .ok (.aload_n 0, 1) := by decide +kernel
theorem dX5_readMarkName_52 : decode cX5_readMarkName 52 = .ok (.getfield 44, 3) := by decide +kernel
theorem dX5_readMarkName_55 : decode cX5_readMarkName 55 = .ok (.getfield 61, 3) := by decide +kernel
theorem dX5_readMarkName_58 : decode cX5_readMarkName 58 = .ok (.bipush 11, 2) := by decide +kernel
theorem dX5_readMarkName_60 : decode cX5_readMarkName 60 = .ok (.if_icmp .eq 7, 3) := by decide +kernel
theorem dX5_readMarkName_63 : decode cX5_readMarkName 63 = .ok (.iconst 1, 1) := by decide +kernel
theorem dX5_readMarkName_64 : decode cX5_readMarkName 64 = .ok (.goto 13, 3) := by decide +kernel
theorem dX5_readMarkName_67 : decode cX5_readMarkName 67 = .ok (.iload_n 2, 1) := by decide +kernel
theorem dX5_readMarkName_68 : decode cX5_readMarkName 68 = .ok (.iconst (-1), 1) := by decide +kernel
theorem dX5_readMarkName_69 : decode cX5_readMarkName 69 = .ok (.if_icmp .ne 7, 3) := by decide +kernel
theorem dX5_readMarkName_72 : decode cX5_readMarkName 72 = .ok (.iconst 4, 1) := by decide +kernel
theorem dX5_readMarkName_73 : decode cX5_readMarkName 73 = .ok (.goto 4, 3) := by decide +kernel
theorem dX5_readMarkName_76 : decode cX5_readMarkName 76 = .ok (.iconst 3, 1) := by decide +kernel
theorem dX5_readMarkName_77 : decode cX5_readMarkName 77 = .ok (.invokevirtual 74, 3) := by decide +kernel
theorem dX5_readMarkName_80 : decode cX5_readMarkName 80 = .ok (.pop, 1) := by decide +kernel
theorem dX5_readMarkName_81 : decode cX5_readMarkName 81 = .ok (.iconst (-1), 1) := by decide +kernel
theorem dX5_readMarkName_82 : decode cX5_readMarkName 82 = .ok (.ireturn, 1) := by decide +kernel
def rmX5_readMarkName : Room := rmk 9 0 0 215
theorem nX5_readMarkName : nameOk yX5_readMarkName 1 = true := by decide +kernel
def bX5_readMarkName_0 (J : JT) : List Value → Sem
  | [.ref x0, .int x1] =>
    gR 5 0 x0 fun r1 =>
    gI 8 2 r1 fun v2 =>
    br (v2 = (11 : Int32))
    (gR 5 1 x0 fun r4 =>
    gR 5 0 x0 fun r5 =>
    gI 8 5 r5 fun v6 =>
    ob 9 r4 (cI SX9_named [.ref r4, .int v6] fun v7 =>
    br (v7 = ((-1) : Int32))
    (J 1 [.ref x0, .int v7])
    (br (v7 = x1)
    (J 1 [.ref x0, .int v7])
    (gR 5 0 x0 fun r8 =>
    ob 8 r8 (cV SX8_advance [.ref r8] <|
    rI v7)))))
    (br (((-1) : Int32) = ((-1) : Int32))
    (J 1 [.ref x0, .int (-1)])
    (br (((-1) : Int32) = x1)
    (J 1 [.ref x0, .int (-1)])
    (gR 5 0 x0 fun r3 =>
    ob 8 r3 (cV SX8_advance [.ref r3] <|
    rI (-1)))))
  | _ => no
def bX5_readMarkName_1 (J : JT) : List Value → Sem
  | [.ref x0, .int x2] =>
    gR 5 0 x0 fun r1 =>
    gI 8 2 r1 fun v2 =>
    br (v2 = (11 : Int32))
    (br (x2 = ((-1) : Int32))
    (ob 5 x0 (cI SX5_fail [.ref x0, .int 4] fun v4 =>
    rI (-1)))
    (ob 5 x0 (cI SX5_fail [.ref x0, .int 3] fun v3 =>
    rI (-1))))
    (ob 5 x0 (cI SX5_fail [.ref x0, .int 1] fun v5 =>
    rI (-1)))
  | _ => no
def bX5_readMarkName (J : JT) : JT := fun L a => match L with
  | 0 => bX5_readMarkName_0 J a
  | 1 => bX5_readMarkName_1 J a
  | _ => no
def SX5_readMarkName : ST := mk 3 bX5_readMarkName
def lX5_readMarkName (L : Nat) (a : List Value) : Nat × Nat × Nat × List (Nat × Value) × List Value := match L with
  | 0 => (0, 0, 0, lv_args 0 a, [])
  | 1 => (0, 0, 50, List.zip [0, 2] a, [])
  | _ => (0, 0, 0, [], [])
theorem pX5_readMarkName_0 {Γ : CT} (hC : Ctx Γ "SpiritWall$Reader" cX5_readMarkName 3 (some .int) rmX5_readMarkName) (hnt : NT Γ) (J : JT) (hJ : ∀ L a, Cor Γ 3 (lX5_readMarkName L a).1 (lX5_readMarkName L a).2.1 (lX5_readMarkName L a).2.2.1 (lX5_readMarkName L a).2.2.2.1 (lX5_readMarkName L a).2.2.2.2 (J L a)) (a : List Value) : Cor Γ 3 0 0 0 (lv_args 0 a) [] (bX5_readMarkName_0 J a) := by
  unfold bX5_readMarkName_0
  split
  · rename_i x0 x1
    refine c_sub [0, 1] rfl (loc' := [(0, .ref x0), (1, .int x1)]) ?_
    refine q_aload_n hC 0 dX5_readMarkName_0 rfl rfl ?_
    refine q_getR hC (by decide) (by decide) rfl w_77 dX5_readMarkName_1 (fun r1 => ?_)
    refine q_getI hC (by decide) (by decide) rfl w_240 dX5_readMarkName_4 (fun v2 => ?_)
    refine q_bipush hC (v := 11) dX5_readMarkName_7 rfl ?_
    refine q_ic_ne hC 29 dX5_readMarkName_9 rfl ?_ ?_
    · refine q_iconst hC dX5_readMarkName_29 rfl ?_
      refine q_istore_nA hC (loc' := [(2, .int (-1)), (0, .ref x0), (1, .int x1)]) dX5_readMarkName_30 rfl (Nat.le_of_ble_eq_true rfl) rfl ?_
      refine q_iload_n hC 0 dX5_readMarkName_31 rfl rfl ?_
      refine q_iconst hC dX5_readMarkName_32 rfl ?_
      refine q_ic_eq hC 50 dX5_readMarkName_33 rfl ?_ ?_
      · exact c_sub [1, 0] rfl (hJ 1 [.ref x0, .int (-1)])
      · refine q_iload_n hC 0 dX5_readMarkName_36 rfl rfl ?_
        refine q_iload_n hC 2 dX5_readMarkName_37 rfl rfl ?_
        refine q_ic_eq hC 50 dX5_readMarkName_38 rfl ?_ ?_
        · exact c_sub [1, 0] rfl (hJ 1 [.ref x0, .int (-1)])
        · refine q_aload_n hC 1 dX5_readMarkName_41 rfl rfl ?_
          refine q_getR hC (by decide) (by decide) rfl w_77 dX5_readMarkName_42 (fun r3 => ?_)
          refine q_cVV hC hnt (stk := []) (as := []) sX8_advance (ci := 8) (by decide) rfl nX8_advance rfl w_239 w_230 w_231 w_76 w_229 (Nat.le_of_ble_eq_true rfl) dX5_readMarkName_45 rfl ?_
          refine q_iload_n hC 0 dX5_readMarkName_48 rfl rfl ?_
          exact q_iret hC dX5_readMarkName_49 (Nat.le_of_ble_eq_true rfl) (Nat.le_of_ble_eq_true rfl)
    · refine q_aload_n hC 0 dX5_readMarkName_12 rfl rfl ?_
      refine q_getR hC (by decide) (by decide) rfl w_66 dX5_readMarkName_13 (fun r4 => ?_)
      refine q_aload_n hC 0 dX5_readMarkName_16 rfl rfl ?_
      refine q_getR hC (by decide) (by decide) rfl w_77 dX5_readMarkName_17 (fun r5 => ?_)
      refine q_getI hC (by decide) (by decide) rfl w_252 dX5_readMarkName_20 (fun v6 => ?_)
      refine q_cVI hC hnt (stk := []) (as := [.int v6]) sX9_named (ci := 9) (by decide) rfl nX9_named rfl w_253 w_255 w_256 w_65 w_254 (Nat.le_of_ble_eq_true rfl) dX5_readMarkName_23 rfl (fun v7 => ?_)
      refine q_goto hC 30 dX5_readMarkName_26 rfl ?_
      refine q_istore_nA hC (loc' := [(2, .int v7), (0, .ref x0), (1, .int x1)]) dX5_readMarkName_30 rfl (Nat.le_of_ble_eq_true rfl) rfl ?_
      refine q_iload_n hC 0 dX5_readMarkName_31 rfl rfl ?_
      refine q_iconst hC dX5_readMarkName_32 rfl ?_
      refine q_ic_eq hC 50 dX5_readMarkName_33 rfl ?_ ?_
      · exact c_sub [1, 0] rfl (hJ 1 [.ref x0, .int v7])
      · refine q_iload_n hC 0 dX5_readMarkName_36 rfl rfl ?_
        refine q_iload_n hC 2 dX5_readMarkName_37 rfl rfl ?_
        refine q_ic_eq hC 50 dX5_readMarkName_38 rfl ?_ ?_
        · exact c_sub [1, 0] rfl (hJ 1 [.ref x0, .int v7])
        · refine q_aload_n hC 1 dX5_readMarkName_41 rfl rfl ?_
          refine q_getR hC (by decide) (by decide) rfl w_77 dX5_readMarkName_42 (fun r8 => ?_)
          refine q_cVV hC hnt (stk := []) (as := []) sX8_advance (ci := 8) (by decide) rfl nX8_advance rfl w_239 w_230 w_231 w_76 w_229 (Nat.le_of_ble_eq_true rfl) dX5_readMarkName_45 rfl ?_
          refine q_iload_n hC 0 dX5_readMarkName_48 rfl rfl ?_
          exact q_iret hC dX5_readMarkName_49 (Nat.le_of_ble_eq_true rfl) (Nat.le_of_ble_eq_true rfl)
  · exact c_no
theorem pX5_readMarkName_1 {Γ : CT} (hC : Ctx Γ "SpiritWall$Reader" cX5_readMarkName 3 (some .int) rmX5_readMarkName) (hnt : NT Γ) (J : JT) (hJ : ∀ L a, Cor Γ 3 (lX5_readMarkName L a).1 (lX5_readMarkName L a).2.1 (lX5_readMarkName L a).2.2.1 (lX5_readMarkName L a).2.2.2.1 (lX5_readMarkName L a).2.2.2.2 (J L a)) (a : List Value) : Cor Γ 3 0 0 50 (List.zip [0, 2] a) [] (bX5_readMarkName_1 J a) := by
  unfold bX5_readMarkName_1
  split
  · rename_i x0 x2
    refine c_sub [0, 1] rfl (loc' := [(0, .ref x0), (2, .int x2)]) ?_
    refine q_aload_n hC 0 dX5_readMarkName_50 rfl rfl ?_
    refine q_aload_n hC 0 dX5_readMarkName_51 rfl rfl ?_
    refine q_getR hC (by decide) (by decide) rfl w_77 dX5_readMarkName_52 (fun r1 => ?_)
    refine q_getI hC (by decide) (by decide) rfl w_240 dX5_readMarkName_55 (fun v2 => ?_)
    refine q_bipush hC (v := 11) dX5_readMarkName_58 rfl ?_
    refine q_ic_eq hC 67 dX5_readMarkName_60 rfl ?_ ?_
    · refine q_iload_n hC 1 dX5_readMarkName_67 rfl rfl ?_
      refine q_iconst hC dX5_readMarkName_68 rfl ?_
      refine q_ic_ne hC 76 dX5_readMarkName_69 rfl ?_ ?_
      · refine q_iconst hC dX5_readMarkName_76 rfl ?_
        refine q_cVI hC hnt (stk := []) (as := [.int 3]) sX5_fail (ci := 5) (by decide) rfl nX5_fail rfl w_242 w_244 w_245 w_144 w_243 (Nat.le_of_ble_eq_true rfl) dX5_readMarkName_77 rfl (fun v3 => ?_)
        refine q_popI hC dX5_readMarkName_80 ?_
        refine q_iconst hC dX5_readMarkName_81 rfl ?_
        exact q_iret hC dX5_readMarkName_82 (Nat.le_of_ble_eq_true rfl) (Nat.le_of_ble_eq_true rfl)
      · refine q_iconst hC dX5_readMarkName_72 rfl ?_
        refine q_goto hC 77 dX5_readMarkName_73 rfl ?_
        refine q_cVI hC hnt (stk := []) (as := [.int 4]) sX5_fail (ci := 5) (by decide) rfl nX5_fail rfl w_242 w_244 w_245 w_144 w_243 (Nat.le_of_ble_eq_true rfl) dX5_readMarkName_77 rfl (fun v4 => ?_)
        refine q_popI hC dX5_readMarkName_80 ?_
        refine q_iconst hC dX5_readMarkName_81 rfl ?_
        exact q_iret hC dX5_readMarkName_82 (Nat.le_of_ble_eq_true rfl) (Nat.le_of_ble_eq_true rfl)
    · refine q_iconst hC dX5_readMarkName_63 rfl ?_
      refine q_goto hC 77 dX5_readMarkName_64 rfl ?_
      refine q_cVI hC hnt (stk := []) (as := [.int 1]) sX5_fail (ci := 5) (by decide) rfl nX5_fail rfl w_242 w_244 w_245 w_144 w_243 (Nat.le_of_ble_eq_true rfl) dX5_readMarkName_77 rfl (fun v5 => ?_)
      refine q_popI hC dX5_readMarkName_80 ?_
      refine q_iconst hC dX5_readMarkName_81 rfl ?_
      exact q_iret hC dX5_readMarkName_82 (Nat.le_of_ble_eq_true rfl) (Nat.le_of_ble_eq_true rfl)
  · exact c_no
theorem sX5_readMarkName : Snd yX5_readMarkName (.code yX5_readMarkName cX5_readMarkName 3 (some .int)) rmX5_readMarkName SX5_readMarkName := by
  refine Snd.of lX5_readMarkName (by decide +kernel) (fun _ => rfl) ?_
  intro Γ hC hnt hnm J hJ L a
  match L with
  | 0 => exact pX5_readMarkName_0 hC hnt J hJ a
  | 1 => exact pX5_readMarkName_1 hC hnt J hJ a
  | L + 2 => exact c_no
/-! SpiritWall$State.add(IIIII)I -/
theorem dX6_add_0 : decode cX6_add 0 = .ok (.aload_n 0, 1) := by decide +kernel
theorem dX6_add_1 : decode cX6_add 1 = .ok (.getfield 32, 3) := by decide +kernel
theorem dX6_add_4 : decode cX6_add 4 = .ok (.istore 6, 2) := by decide +kernel
theorem dX6_add_6 : decode cX6_add 6 = .ok (.aload_n 0, 1) := by decide +kernel
theorem dX6_add_7 : decode cX6_add 7 = .ok (.getfield 35, 3) := by decide +kernel
theorem dX6_add_10 : decode cX6_add 10 = .ok (.iload 6, 2) := by decide +kernel
theorem dX6_add_12 : decode cX6_add 12 = .ok (.iload_n 1, 1) := by decide +kernel
theorem dX6_add_13 : decode cX6_add 13 = .ok (.invokestatic 73, 3) := by decide +kernel
theorem dX6_add_16 : decode cX6_add 16 = .ok (.aload_n 0, 1) := by decide +kernel
theorem dX6_add_17 : decode cX6_add 17 = .ok (.getfield 38, 3) := by decide +kernel
theorem dX6_add_20 : decode cX6_add 20 = .ok (.iload 6, 2) := by decide +kernel
theorem dX6_add_22 : decode cX6_add 22 = .ok (.iload_n 2, 1) := by decide +kernel
theorem dX6_add_23 : decode cX6_add 23 = .ok (.invokestatic 73, 3) := by decide +kernel
theorem dX6_add_26 : decode cX6_add 26 = .ok (.aload_n 0, 1) := by decide +kernel
theorem dX6_add_27 : decode cX6_add 27 = .ok (.getfield 41, 3) := by decide +kernel
theorem dX6_add_30 : decode cX6_add 30 = .ok (.iload 6, 2) := by decide +kernel
theorem dX6_add_32 : decode cX6_add 32 = .ok (.iload_n 3, 1) := by decide +kernel
theorem dX6_add_33 : decode cX6_add 33 = .ok (.invokestatic 73, 3) := by decide +kernel
theorem dX6_add_36 : decode cX6_add 36 = .ok (.aload_n 0, 1) := by decide +kernel
theorem dX6_add_37 : decode cX6_add 37 = .ok (.getfield 44, 3) := by decide +kernel
theorem dX6_add_40 : decode cX6_add 40 = .ok (.iload 6, 2) := by decide +kernel
theorem dX6_add_42 : decode cX6_add 42 = .ok (.iload 4, 2) := by decide +kernel
theorem dX6_add_44 : decode cX6_add 44 = .ok (.invokestatic 73, 3) := by decide +kernel
theorem dX6_add_47 : decode cX6_add 47 = .ok (.aload_n 0, 1) := by decide +kernel
theorem dX6_add_48 : decode cX6_add 48 = .ok (.getfield 47, 3) := by decide +kernel
theorem dX6_add_51 : decode cX6_add 51 = .ok (.iload 6, 2) := by decide +kernel
theorem dX6_add_53 : decode cX6_add 53 = .ok (.iload 5, 2) := by decide +kernel
theorem dX6_add_55 : decode cX6_add 55 = .ok (.invokestatic 73, 3) := by decide +kernel
theorem dX6_add_58 : decode cX6_add 58 = .ok (.aload_n 0, 1) := by decide +kernel
theorem dX6_add_59 : decode cX6_add 59 = .ok (.getfield 50, 3) := by decide +kernel
theorem dX6_add_62 : decode cX6_add 62 = .ok (.iload 6, 2) := by decide +kernel
theorem dX6_add_64 : decode cX6_add 64 = .ok (.iconst 0, 1) := by decide +kernel
theorem dX6_add_65 : decode cX6_add 65 = .ok (.invokestatic 73, 3) := by decide +kernel
theorem dX6_add_68 : decode cX6_add 68 = .ok (.aload_n 0, 1) := by decide +kernel
theorem dX6_add_69 : decode cX6_add 69 = .ok (.dup, 1) := by decide +kernel
theorem dX6_add_70 : decode cX6_add 70 = .ok (.getfield 32, 3) := by decide +kernel
theorem dX6_add_73 : decode cX6_add 73 = .ok (.iconst 1, 1) := by decide +kernel
theorem dX6_add_74 : decode cX6_add 74 = .ok (.iadd, 1) := by decide +kernel
theorem dX6_add_75 : decode cX6_add 75 = .ok (.putfield 32, 3) := by decide +kernel
theorem dX6_add_78 : decode cX6_add 78 = .ok (.iload 6, 2) := by decide +kernel
theorem dX6_add_80 : decode cX6_add 80 = .ok (.ireturn, 1) := by decide +kernel
def rmX6_add : Room := rmk 7 0 0 172
theorem nX6_add : nameOk yX6_add 5 = true := by decide +kernel
def bX6_add_0 (J : JT) : List Value → Sem
  | [.ref x0, .int x1, .int x2, .int x3, .int x4, .int x5] =>
    gI 6 6 x0 fun v1 =>
    gR 6 7 x0 fun r2 =>
    cV SX10_put [.ref r2, .int v1, .int x1] <|
    gR 6 8 x0 fun r3 =>
    cV SX10_put [.ref r3, .int v1, .int x2] <|
    gR 6 9 x0 fun r4 =>
    cV SX10_put [.ref r4, .int v1, .int x3] <|
    gR 6 10 x0 fun r5 =>
    cV SX10_put [.ref r5, .int v1, .int x4] <|
    gR 6 11 x0 fun r6 =>
    cV SX10_put [.ref r6, .int v1, .int x5] <|
    gR 6 12 x0 fun r7 =>
    cV SX10_put [.ref r7, .int v1, .int 0] <|
    gI 6 6 x0 fun v8 =>
    pI 6 6 x0 (v8 + 1) <|
    rI v1
  | _ => no
def bX6_add (J : JT) : JT := fun L a => match L with
  | 0 => bX6_add_0 J a
  | _ => no
def SX6_add : ST := mk 7 bX6_add
def lX6_add (L : Nat) (a : List Value) : Nat × Nat × Nat × List (Nat × Value) × List Value := match L with
  | 0 => (0, 0, 0, lv_args 0 a, [])
  | _ => (0, 0, 0, [], [])
theorem pX6_add_0 {Γ : CT} (hC : Ctx Γ "SpiritWall$State" cX6_add 7 (some .int) rmX6_add) (hnt : NT Γ) (J : JT) (hJ : ∀ L a, Cor Γ 7 (lX6_add L a).1 (lX6_add L a).2.1 (lX6_add L a).2.2.1 (lX6_add L a).2.2.2.1 (lX6_add L a).2.2.2.2 (J L a)) (a : List Value) : Cor Γ 7 0 0 0 (lv_args 0 a) [] (bX6_add_0 J a) := by
  unfold bX6_add_0
  split
  · rename_i x0 x1 x2 x3 x4 x5
    refine c_sub [0, 1, 2, 3, 4, 5] rfl (loc' := [(0, .ref x0), (1, .int x1), (2, .int x2), (3, .int x3), (4, .int x4), (5, .int x5)]) ?_
    refine q_aload_n hC 0 dX6_add_0 rfl rfl ?_
    refine q_getI hC (by decide) (by decide) rfl w_16 dX6_add_1 (fun v1 => ?_)
    refine q_istoreA hC (loc' := [(6, .int v1), (0, .ref x0), (1, .int x1), (2, .int x2), (3, .int x3), (4, .int x4), (5, .int x5)]) dX6_add_4 (Nat.le_of_ble_eq_true rfl) rfl ?_
    refine q_aload_n hC 1 dX6_add_6 rfl rfl ?_
    refine q_getR hC (by decide) (by decide) rfl w_17 dX6_add_7 (fun r2 => ?_)
    refine q_iload hC 0 dX6_add_10 rfl ?_
    refine q_iload_n hC 2 dX6_add_12 rfl rfl ?_
    refine q_cNV hC hnt (stk := []) (as := [.ref r2, .int v1, .int x1]) sX10_put nX10_put rfl w_246 w_187 w_27 w_186 (Nat.le_of_ble_eq_true rfl) dX6_add_13 rfl ?_
    refine q_aload_n hC 1 dX6_add_16 rfl rfl ?_
    refine q_getR hC (by decide) (by decide) rfl w_18 dX6_add_17 (fun r3 => ?_)
    refine q_iload hC 0 dX6_add_20 rfl ?_
    refine q_iload_n hC 3 dX6_add_22 rfl rfl ?_
    refine q_cNV hC hnt (stk := []) (as := [.ref r3, .int v1, .int x2]) sX10_put nX10_put rfl w_246 w_187 w_27 w_186 (Nat.le_of_ble_eq_true rfl) dX6_add_23 rfl ?_
    refine q_aload_n hC 1 dX6_add_26 rfl rfl ?_
    refine q_getR hC (by decide) (by decide) rfl w_19 dX6_add_27 (fun r4 => ?_)
    refine q_iload hC 0 dX6_add_30 rfl ?_
    refine q_iload_n hC 4 dX6_add_32 rfl rfl ?_
    refine q_cNV hC hnt (stk := []) (as := [.ref r4, .int v1, .int x3]) sX10_put nX10_put rfl w_246 w_187 w_27 w_186 (Nat.le_of_ble_eq_true rfl) dX6_add_33 rfl ?_
    refine q_aload_n hC 1 dX6_add_36 rfl rfl ?_
    refine q_getR hC (by decide) (by decide) rfl w_20 dX6_add_37 (fun r5 => ?_)
    refine q_iload hC 0 dX6_add_40 rfl ?_
    refine q_iload hC 5 dX6_add_42 rfl ?_
    refine q_cNV hC hnt (stk := []) (as := [.ref r5, .int v1, .int x4]) sX10_put nX10_put rfl w_246 w_187 w_27 w_186 (Nat.le_of_ble_eq_true rfl) dX6_add_44 rfl ?_
    refine q_aload_n hC 1 dX6_add_47 rfl rfl ?_
    refine q_getR hC (by decide) (by decide) rfl w_21 dX6_add_48 (fun r6 => ?_)
    refine q_iload hC 0 dX6_add_51 rfl ?_
    refine q_iload hC 6 dX6_add_53 rfl ?_
    refine q_cNV hC hnt (stk := []) (as := [.ref r6, .int v1, .int x5]) sX10_put nX10_put rfl w_246 w_187 w_27 w_186 (Nat.le_of_ble_eq_true rfl) dX6_add_55 rfl ?_
    refine q_aload_n hC 1 dX6_add_58 rfl rfl ?_
    refine q_getR hC (by decide) (by decide) rfl w_22 dX6_add_59 (fun r7 => ?_)
    refine q_iload hC 0 dX6_add_62 rfl ?_
    refine q_iconst hC dX6_add_64 rfl ?_
    refine q_cNV hC hnt (stk := []) (as := [.ref r7, .int v1, .int 0]) sX10_put nX10_put rfl w_246 w_187 w_27 w_186 (Nat.le_of_ble_eq_true rfl) dX6_add_65 rfl ?_
    refine q_aload_n hC 1 dX6_add_68 rfl rfl ?_
    refine q_dup hC dX6_add_69 ?_
    refine q_getI hC (by decide) (by decide) rfl w_16 dX6_add_70 (fun v8 => ?_)
    refine q_iconst hC dX6_add_73 rfl ?_
    refine q_iadd hC dX6_add_74 ?_
    refine q_putI hC (by decide) (by decide) rfl rfl w_16 dX6_add_75 ?_
    refine q_iload hC 0 dX6_add_78 rfl ?_
    exact q_iret hC dX6_add_80 (Nat.le_of_ble_eq_true rfl) (Nat.le_of_ble_eq_true rfl)
  · exact c_no
theorem sX6_add : Snd yX6_add (.code yX6_add cX6_add 7 (some .int)) rmX6_add SX6_add := by
  refine Snd.of lX6_add (by decide +kernel) (fun _ => rfl) ?_
  intro Γ hC hnt hnm J hJ L a
  match L with
  | 0 => exact pX6_add_0 hC hnt J hJ a
  | L + 1 => exact c_no
/-! SpiritWall$Reader.readSight()Z -/
theorem dX5_readSight_0 : decode cX5_readSight 0 = .ok (.aload_n 0, 1) := by decide +kernel
theorem dX5_readSight_1 : decode cX5_readSight 1 = .ok (.getfield 21, 3) := by decide +kernel
theorem dX5_readSight_4 : decode cX5_readSight 4 = .ok (.getfield 121, 3) := by decide +kernel
theorem dX5_readSight_7 : decode cX5_readSight 7 = .ok (.bipush 40, 2) := by decide +kernel
theorem dX5_readSight_9 : decode cX5_readSight 9 = .ok (.if_icmp .lt 9, 3) := by decide +kernel
theorem dX5_readSight_12 : decode cX5_readSight 12 = .ok (.aload_n 0, 1) := by decide +kernel
theorem dX5_readSight_13 : decode cX5_readSight 13 = .ok (.iconst 5, 1) := by decide +kernel
theorem dX5_readSight_14 : decode cX5_readSight 14 = .ok (.invokevirtual 74, 3) := by decide +kernel
theorem dX5_readSight_17 : decode cX5_readSight 17 = .ok (.ireturn, 1) := by decide +kernel
theorem dX5_readSight_18 : decode cX5_readSight 18 = .ok (.aload_n 0, 1) := by decide +kernel
theorem dX5_readSight_19 : decode cX5_readSight 19 = .ok (.getfield 44, 3) := by decide +kernel
theorem dX5_readSight_22 : decode cX5_readSight 22 = .ok (.invokevirtual 78, 3) := by decide +kernel
theorem dX5_readSight_25 : decode cX5_readSight 25 = .ok (.aload_n 0, 1) := by decide +kernel
theorem dX5_readSight_26 : decode cX5_readSight 26 = .ok (.iconst (-1), 1) := by decide +kernel
theorem dX5_readSight_27 : decode cX5_readSight 27 = .ok (.invokevirtual 124, 3) := by decide +kernel
theorem dX5_readSight_30 : decode cX5_readSight 30 = .ok (.istore_n 1, 1) := by decide +kernel
theorem dX5_readSight_31 : decode cX5_readSight 31 = .ok (.iload_n 1, 1) := by decide +kernel
theorem dX5_readSight_32 : decode cX5_readSight 32 = .ok (.iconst (-1), 1) := by decide +kernel
theorem dX5_readSight_33 : decode cX5_readSight 33 = .ok (.if_icmp .ne 5, 3) := by decide +kernel
theorem dX5_readSight_36 : decode cX5_readSight 36 = .ok (.iconst 0, 1) := by decide +kernel
theorem dX5_readSight_37 : decode cX5_readSight 37 = .ok (.ireturn, 1) := by decide +kernel
theorem dX5_readSight_38 : decode cX5_readSight 38 = .ok (.aload_n 0, 1) := by decide +kernel
theorem dX5_readSight_39 : decode cX5_readSight 39 = .ok (.iload_n 1, 1) := by decide +kernel
theorem dX5_readSight_40 : decode cX5_readSight 40 = .ok (.invokevirtual 124, 3) := by decide +kernel
theorem dX5_readSight_43 : decode cX5_readSight 43 = .ok (.istore_n 2, 1) := by decide +kernel
theorem dX5_readSight_44 : decode cX5_readSight 44 = .ok (.iload_n 2, 1) := by decide +kernel
theorem dX5_readSight_45 : decode cX5_readSight 45 = .ok (.iconst (-1), 1) := by decide +kernel
theorem dX5_readSight_46 : decode cX5_readSight 46 = .ok (.if_icmp .ne 5, 3) := by decide +kernel
theorem dX5_readSight_49 : decode cX5_readSight 49 = .ok (.iconst 0, 1) := by decide +kernel
theorem dX5_readSight_50 : decode cX5_readSight 50 = .ok (.ireturn, 1) := by decide +kernel
theorem dX5_readSight_51 : decode cX5_readSight 51 = .ok (.aload_n 0, 1) := by decide +kernel
theorem dX5_readSight_52 : decode cX5_readSight 52 = .ok (.getfield 44, 3) := by decide +kernel
theorem dX5_readSight_55 : decode cX5_readSight 55 = .ok (.getfield 61, 3) := by decide +kernel
theorem dX5_readSight_58 : decode cX5_readSight 58 = .ok (.iconst 3, 1) := by decide +kernel
theorem dX5_readSight_59 : decode cX5_readSight 59 = .ok (.if_icmp .eq 20, 3) := by decide +kernel
theorem dX5_readSight_62 : decode cX5_readSight 62 = .ok (.aload_n 0, 1) := by decide +kernel
theorem dX5_readSight_63 : decode cX5_readSight 63 = .ok (.getfield 44, 3) := by decide +kernel
theorem dX5_readSight_66 : decode cX5_readSight 66 = .ok (.getfield 61, 3) := by decide +kernel
theorem dX5_readSight_69 : decode cX5_readSight 69 = .ok (.iconst 4, 1) := by decide +kernel
theorem dX5_readSight_70 : decode cX5_readSight 70 = .ok (.if_icmp .eq 9, 3) := by decide +kernel
theorem dX5_readSight_73 : decode cX5_readSight 73 = .ok (.aload_n 0, 1) := by decide +kernel
theorem dX5_readSight_74 : decode cX5_readSight 74 = .ok (.iconst 1, 1) := by decide +kernel
theorem dX5_readSight_75 : decode cX5_readSight 75 = .ok (.invokevirtual 74, 3) := by decide +kernel
theorem dX5_readSight_78 : decode cX5_readSight 78 = .ok (.ireturn, 1) := by decide +kernel
theorem dX5_readSight_79 : decode cX5_readSight 79 = .ok (.aload_n 0, 1) := by decide +kernel
theorem dX5_readSight_80 : decode cX5_readSight 80 = .ok (.getfield 44, 3) := by decide +kernel
theorem dX5_readSight_83 : decode cX5_readSight 83 = .ok (.getfield 61, 3) := by decide +kernel
theorem dX5_readSight_86 : decode cX5_readSight 86 = .ok (.iconst 3, 1) := by decide +kernel
theorem dX5_readSight_87 : decode cX5_readSight 87 = .ok (.if_icmp .ne 7, 3) := by decide +kernel
theorem dX5_readSight_90 : decode cX5_readSight 90 = .ok (.iconst 0, 1) := by decide +kernel
theorem dX5_readSight_91 : decode cX5_readSight 91 = .ok (.goto 4, 3) := by decide +kernel
theorem dX5_readSight_94 : decode cX5_readSight 94 = .ok (.iconst 1, 1) := by decide +kernel
theorem dX5_readSight_95 : decode cX5_readSight 95 = .ok (.istore_n 3, 1) := by decide +kernel
theorem dX5_readSight_96 : decode cX5_readSight 96 = .ok (.aload_n 0, 1) := by decide +kernel
theorem dX5_readSight_97 : decode cX5_readSight 97 = .ok (.getfield 44, 3) := by decide +kernel
theorem dX5_readSight_100 : decode cX5_readSight 100 = .ok (.invokevirtual 78, 3) := by decide +kernel
theorem dX5_readSight_103 : decode cX5_readSight 103 = .ok (.aload_n 0, 1) := by decide +kernel
theorem dX5_readSight_104 : decode cX5_readSight 104 = .ok (.iconst 1, 1) := by decide +kernel
theorem dX5_readSight_105 : decode cX5_readSight 105 = .ok (.sipush (-9999), 3) := by decide +kernel
theorem dX5_readSight_108 : decode cX5_readSight 108 = .ok (.sipush 9999, 3) := by decide +kernel
theorem dX5_readSight_111 : decode cX5_readSight 111 = .ok (.invokevirtual 113, 3) := by decide +kernel
theorem dX5_readSight_114 : decode cX5_readSight 114 = .ok (.ifCond .ne 5, 3) := by decide +kernel
theorem dX5_readSight_117 : decode cX5_readSight 117 = .ok (.iconst 0, 1) := by decide +kernel
theorem dX5_readSight_118 : decode cX5_readSight 118 = .ok (.ireturn, 1) := by decide +kernel
theorem dX5_readSight_119 : decode cX5_readSight 119 = .ok (.aload_n 0, 1) := by decide +kernel
theorem dX5_readSight_120 : decode cX5_readSight 120 = .ok (.getfield 36, 3) := by decide +kernel
theorem dX5_readSight_123 : decode cX5_readSight 123 = .ok (.istore 4, 2) := by decide +kernel
theorem dX5_readSight_125 : decode cX5_readSight 125 = .ok (.bipush 20, 2) := by decide +kernel
theorem dX5_readSight_127 : decode cX5_readSight 127 = .ok (.istore 5, 2) := by decide +kernel
theorem dX5_readSight_129 : decode cX5_readSight 129 = .ok (.aload_n 0, 1) := by decide +kernel
theorem dX5_readSight_130 : decode cX5_readSight 130 = .ok (.getfield 44, 3) := by decide +kernel
theorem dX5_readSight_133 : decode cX5_readSight 133 = .ok (.getfield 61, 3) := by decide +kernel
theorem dX5_readSight_136 : decode cX5_readSight 136 = .ok (.iconst 5, 1) := by decide +kernel
theorem dX5_readSight_137 : decode cX5_readSight 137 = .ok (.if_icmp .ne 30, 3) := by decide +kernel
theorem dX5_readSight_140 : decode cX5_readSight 140 = .ok (.aload_n 0, 1) := by decide +kernel
theorem dX5_readSight_141 : decode cX5_readSight 141 = .ok (.getfield 44, 3) := by decide +kernel
theorem dX5_readSight_144 : decode cX5_readSight 144 = .ok (.invokevirtual 78, 3) := by decide +kernel
theorem dX5_readSight_147 : decode cX5_readSight 147 = .ok (.aload_n 0, 1) := by decide +kernel
theorem dX5_readSight_148 : decode cX5_readSight 148 = .ok (.iconst 1, 1) := by decide +kernel
theorem dX5_readSight_149 : decode cX5_readSight 149 = .ok (.bipush (-40), 2) := by decide +kernel
theorem dX5_readSight_151 : decode cX5_readSight 151 = .ok (.bipush 60, 2) := by decide +kernel
theorem dX5_readSight_153 : decode cX5_readSight 153 = .ok (.invokevirtual 113, 3) := by decide +kernel
theorem dX5_readSight_156 : decode cX5_readSight 156 = .ok (.ifCond .ne 5, 3) := by decide +kernel
theorem dX5_readSight_159 : decode cX5_readSight 159 = .ok (.iconst 0, 1) := by decide +kernel
theorem dX5_readSight_160 : decode cX5_readSight 160 = .ok (.ireturn, 1) := by decide +kernel
theorem dX5_readSight_161 : decode cX5_readSight 161 = .ok (.aload_n 0, 1) := by decide +kernel
theorem dX5_readSight_162 : decode cX5_readSight 162 = .ok (.getfield 36, 3) := by decide +kernel
theorem dX5_readSight_165 : decode cX5_readSight 165 = .ok (.istore 5, 2) := by decide +kernel
theorem dX5_readSight_167 : decode cX5_readSight 167 = .ok (.aload_n 0, 1) := by decide +kernel
theorem dX5_readSight_168 : decode cX5_readSight 168 = .ok (.getfield 21, 3) := by decide +kernel
theorem dX5_readSight_171 : decode cX5_readSight 171 = .ok (.iload_n 1, 1) := by decide +kernel
theorem dX5_readSight_172 : decode cX5_readSight 172 = .ok (.iload_n 2, 1) := by decide +kernel
theorem dX5_readSight_173 : decode cX5_readSight 173 = .ok (.iload_n 3, 1) := by decide +kernel
theorem dX5_readSight_174 : decode cX5_readSight 174 = .ok (.iload 4, 2) := by decide +kernel
theorem dX5_readSight_176 : decode cX5_readSight 176 = .ok (.iload 5, 2) := by decide +kernel
theorem dX5_readSight_178 : decode cX5_readSight 178 = .ok (.invokevirtual 127, 3) := by decide +kernel
theorem dX5_readSight_181 : decode cX5_readSight 181 = .ok (.pop, 1) := by decide +kernel
theorem dX5_readSight_182 : decode cX5_readSight 182 = .ok (.iconst 1, 1) := by decide +kernel
theorem dX5_readSight_183 : decode cX5_readSight 183 = .ok (.ireturn, 1) := by decide +kernel
def rmX5_readSight : Room := rmk 10 0 0 237
theorem nX5_readSight : nameOk yX5_readSight 0 = true := by decide +kernel
def bX5_readSight_0 (J : JT) : List Value → Sem
  | [.ref x0] =>
    gR 5 2 x0 fun r1 =>
    gI 6 6 r1 fun v2 =>
    br (v2 < (40 : Int32))
    (gR 5 0 x0 fun r3 =>
    ob 8 r3 (cV SX8_advance [.ref r3] <|
    ob 5 x0 (cI SX5_readMarkName [.ref x0, .int (-1)] fun v4 =>
    br (v4 = ((-1) : Int32))
    (rZ 0)
    (ob 5 x0 (cI SX5_readMarkName [.ref x0, .int v4] fun v5 =>
    br (v5 = ((-1) : Int32))
    (rZ 0)
    (gR 5 0 x0 fun r6 =>
    gI 8 2 r6 fun v7 =>
    br (v7 = (3 : Int32))
    (J 1 [.ref x0, .int v4, .int v5])
    (gR 5 0 x0 fun r8 =>
    gI 8 2 r8 fun v9 =>
    br (v9 = (4 : Int32))
    (J 1 [.ref x0, .int v4, .int v5])
    (ob 5 x0 (cI SX5_fail [.ref x0, .int 1] fun v10 =>
    rZ v10)))))))))
    (ob 5 x0 (cI SX5_fail [.ref x0, .int 5] fun v11 =>
    rZ v11))
  | _ => no
def bX5_readSight_1 (J : JT) : List Value → Sem
  | [.ref x0, .int x1, .int x2] =>
    gR 5 0 x0 fun r1 =>
    gI 8 2 r1 fun v2 =>
    br (v2 = (3 : Int32))
    (gR 5 0 x0 fun r15 =>
    ob 8 r15 (cV SX8_advance [.ref r15] <|
    ob 5 x0 (cI SX5_readNumber [.ref x0, .int 1, .int (-9999), .int 9999] fun v16 =>
    br (v16 = 0)
    (rZ 0)
    (gI 5 6 x0 fun v17 =>
    gR 5 0 x0 fun r18 =>
    gI 8 2 r18 fun v19 =>
    br (v19 = (5 : Int32))
    (gR 5 0 x0 fun r22 =>
    ob 8 r22 (cV SX8_advance [.ref r22] <|
    ob 5 x0 (cI SX5_readNumber [.ref x0, .int 1, .int (-40), .int 60] fun v23 =>
    br (v23 = 0)
    (rZ 0)
    (gI 5 6 x0 fun v24 =>
    gR 5 2 x0 fun r25 =>
    ob 6 r25 (cI SX6_add [.ref r25, .int x1, .int x2, .int 0, .int v17, .int v24] fun v26 =>
    rZ 1)))))
    (gR 5 2 x0 fun r20 =>
    ob 6 r20 (cI SX6_add [.ref r20, .int x1, .int x2, .int 0, .int v17, .int 20] fun v21 =>
    rZ 1))))))
    (gR 5 0 x0 fun r3 =>
    ob 8 r3 (cV SX8_advance [.ref r3] <|
    ob 5 x0 (cI SX5_readNumber [.ref x0, .int 1, .int (-9999), .int 9999] fun v4 =>
    br (v4 = 0)
    (rZ 0)
    (gI 5 6 x0 fun v5 =>
    gR 5 0 x0 fun r6 =>
    gI 8 2 r6 fun v7 =>
    br (v7 = (5 : Int32))
    (gR 5 0 x0 fun r10 =>
    ob 8 r10 (cV SX8_advance [.ref r10] <|
    ob 5 x0 (cI SX5_readNumber [.ref x0, .int 1, .int (-40), .int 60] fun v11 =>
    br (v11 = 0)
    (rZ 0)
    (gI 5 6 x0 fun v12 =>
    gR 5 2 x0 fun r13 =>
    ob 6 r13 (cI SX6_add [.ref r13, .int x1, .int x2, .int 1, .int v5, .int v12] fun v14 =>
    rZ 1)))))
    (gR 5 2 x0 fun r8 =>
    ob 6 r8 (cI SX6_add [.ref r8, .int x1, .int x2, .int 1, .int v5, .int 20] fun v9 =>
    rZ 1))))))
  | _ => no
def bX5_readSight (J : JT) : JT := fun L a => match L with
  | 0 => bX5_readSight_0 J a
  | 1 => bX5_readSight_1 J a
  | _ => no
def SX5_readSight : ST := mk 6 bX5_readSight
def lX5_readSight (L : Nat) (a : List Value) : Nat × Nat × Nat × List (Nat × Value) × List Value := match L with
  | 0 => (0, 0, 0, lv_args 0 a, [])
  | 1 => (0, 0, 79, List.zip [0, 1, 2] a, [])
  | _ => (0, 0, 0, [], [])
theorem pX5_readSight_0 {Γ : CT} (hC : Ctx Γ "SpiritWall$Reader" cX5_readSight 6 (some .boolean) rmX5_readSight) (hnt : NT Γ) (J : JT) (hJ : ∀ L a, Cor Γ 6 (lX5_readSight L a).1 (lX5_readSight L a).2.1 (lX5_readSight L a).2.2.1 (lX5_readSight L a).2.2.2.1 (lX5_readSight L a).2.2.2.2 (J L a)) (a : List Value) : Cor Γ 6 0 0 0 (lv_args 0 a) [] (bX5_readSight_0 J a) := by
  unfold bX5_readSight_0
  split
  · rename_i x0
    refine c_sub [0] rfl (loc' := [(0, .ref x0)]) ?_
    refine q_aload_n hC 0 dX5_readSight_0 rfl rfl ?_
    refine q_getR hC (by decide) (by decide) rfl w_68 dX5_readSight_1 (fun r1 => ?_)
    refine q_getI hC (by decide) (by decide) rfl w_275 dX5_readSight_4 (fun v2 => ?_)
    refine q_bipush hC (v := 40) dX5_readSight_7 rfl ?_
    refine q_ic_lt hC 18 dX5_readSight_9 rfl ?_ ?_
    · refine q_aload_n hC 0 dX5_readSight_18 rfl rfl ?_
      refine q_getR hC (by decide) (by decide) rfl w_77 dX5_readSight_19 (fun r3 => ?_)
      refine q_cVV hC hnt (stk := []) (as := []) sX8_advance (ci := 8) (by decide) rfl nX8_advance rfl w_239 w_230 w_231 w_76 w_229 (Nat.le_of_ble_eq_true rfl) dX5_readSight_22 rfl ?_
      refine q_aload_n hC 0 dX5_readSight_25 rfl rfl ?_
      refine q_iconst hC dX5_readSight_26 rfl ?_
      refine q_cVI hC hnt (stk := []) (as := [.int (-1)]) sX5_readMarkName (ci := 5) (by decide) rfl nX5_readMarkName rfl w_276 w_278 w_279 w_144 w_277 (Nat.le_of_ble_eq_true rfl) dX5_readSight_27 rfl (fun v4 => ?_)
      refine q_istore_nA hC (loc' := [(1, .int v4), (0, .ref x0)]) dX5_readSight_30 rfl (Nat.le_of_ble_eq_true rfl) rfl ?_
      refine q_iload_n hC 0 dX5_readSight_31 rfl rfl ?_
      refine q_iconst hC dX5_readSight_32 rfl ?_
      refine q_ic_ne hC 38 dX5_readSight_33 rfl ?_ ?_
      · refine q_aload_n hC 1 dX5_readSight_38 rfl rfl ?_
        refine q_iload_n hC 0 dX5_readSight_39 rfl rfl ?_
        refine q_cVI hC hnt (stk := []) (as := [.int v4]) sX5_readMarkName (ci := 5) (by decide) rfl nX5_readMarkName rfl w_276 w_278 w_279 w_144 w_277 (Nat.le_of_ble_eq_true rfl) dX5_readSight_40 rfl (fun v5 => ?_)
        refine q_istore_nA hC (loc' := [(2, .int v5), (1, .int v4), (0, .ref x0)]) dX5_readSight_43 rfl (Nat.le_of_ble_eq_true rfl) rfl ?_
        refine q_iload_n hC 0 dX5_readSight_44 rfl rfl ?_
        refine q_iconst hC dX5_readSight_45 rfl ?_
        refine q_ic_ne hC 51 dX5_readSight_46 rfl ?_ ?_
        · refine q_aload_n hC 2 dX5_readSight_51 rfl rfl ?_
          refine q_getR hC (by decide) (by decide) rfl w_77 dX5_readSight_52 (fun r6 => ?_)
          refine q_getI hC (by decide) (by decide) rfl w_240 dX5_readSight_55 (fun v7 => ?_)
          refine q_iconst hC dX5_readSight_58 rfl ?_
          refine q_ic_eq hC 79 dX5_readSight_59 rfl ?_ ?_
          · exact c_sub [2, 1, 0] rfl (hJ 1 [.ref x0, .int v4, .int v5])
          · refine q_aload_n hC 2 dX5_readSight_62 rfl rfl ?_
            refine q_getR hC (by decide) (by decide) rfl w_77 dX5_readSight_63 (fun r8 => ?_)
            refine q_getI hC (by decide) (by decide) rfl w_240 dX5_readSight_66 (fun v9 => ?_)
            refine q_iconst hC dX5_readSight_69 rfl ?_
            refine q_ic_eq hC 79 dX5_readSight_70 rfl ?_ ?_
            · exact c_sub [2, 1, 0] rfl (hJ 1 [.ref x0, .int v4, .int v5])
            · refine q_aload_n hC 2 dX5_readSight_73 rfl rfl ?_
              refine q_iconst hC dX5_readSight_74 rfl ?_
              refine q_cVI hC hnt (stk := []) (as := [.int 1]) sX5_fail (ci := 5) (by decide) rfl nX5_fail rfl w_242 w_244 w_245 w_144 w_243 (Nat.le_of_ble_eq_true rfl) dX5_readSight_75 rfl (fun v10 => ?_)
              exact q_zret hC dX5_readSight_78 (Nat.le_of_ble_eq_true rfl) (Nat.le_of_ble_eq_true rfl)
        · refine q_iconst hC dX5_readSight_49 rfl ?_
          exact q_zret hC dX5_readSight_50 (Nat.le_of_ble_eq_true rfl) (Nat.le_of_ble_eq_true rfl)
      · refine q_iconst hC dX5_readSight_36 rfl ?_
        exact q_zret hC dX5_readSight_37 (Nat.le_of_ble_eq_true rfl) (Nat.le_of_ble_eq_true rfl)
    · refine q_aload_n hC 0 dX5_readSight_12 rfl rfl ?_
      refine q_iconst hC dX5_readSight_13 rfl ?_
      refine q_cVI hC hnt (stk := []) (as := [.int 5]) sX5_fail (ci := 5) (by decide) rfl nX5_fail rfl w_242 w_244 w_245 w_144 w_243 (Nat.le_of_ble_eq_true rfl) dX5_readSight_14 rfl (fun v11 => ?_)
      exact q_zret hC dX5_readSight_17 (Nat.le_of_ble_eq_true rfl) (Nat.le_of_ble_eq_true rfl)
  · exact c_no
theorem pX5_readSight_1 {Γ : CT} (hC : Ctx Γ "SpiritWall$Reader" cX5_readSight 6 (some .boolean) rmX5_readSight) (hnt : NT Γ) (J : JT) (hJ : ∀ L a, Cor Γ 6 (lX5_readSight L a).1 (lX5_readSight L a).2.1 (lX5_readSight L a).2.2.1 (lX5_readSight L a).2.2.2.1 (lX5_readSight L a).2.2.2.2 (J L a)) (a : List Value) : Cor Γ 6 0 0 79 (List.zip [0, 1, 2] a) [] (bX5_readSight_1 J a) := by
  unfold bX5_readSight_1
  split
  · rename_i x0 x1 x2
    refine c_sub [0, 1, 2] rfl (loc' := [(0, .ref x0), (1, .int x1), (2, .int x2)]) ?_
    refine q_aload_n hC 0 dX5_readSight_79 rfl rfl ?_
    refine q_getR hC (by decide) (by decide) rfl w_77 dX5_readSight_80 (fun r1 => ?_)
    refine q_getI hC (by decide) (by decide) rfl w_240 dX5_readSight_83 (fun v2 => ?_)
    refine q_iconst hC dX5_readSight_86 rfl ?_
    refine q_ic_ne hC 94 dX5_readSight_87 rfl ?_ ?_
    · refine q_iconst hC dX5_readSight_94 rfl ?_
      refine q_istore_nA hC (loc' := [(3, .int 1), (0, .ref x0), (1, .int x1), (2, .int x2)]) dX5_readSight_95 rfl (Nat.le_of_ble_eq_true rfl) rfl ?_
      refine q_aload_n hC 1 dX5_readSight_96 rfl rfl ?_
      refine q_getR hC (by decide) (by decide) rfl w_77 dX5_readSight_97 (fun r3 => ?_)
      refine q_cVV hC hnt (stk := []) (as := []) sX8_advance (ci := 8) (by decide) rfl nX8_advance rfl w_239 w_230 w_231 w_76 w_229 (Nat.le_of_ble_eq_true rfl) dX5_readSight_100 rfl ?_
      refine q_aload_n hC 1 dX5_readSight_103 rfl rfl ?_
      refine q_iconst hC dX5_readSight_104 rfl ?_
      refine q_sipush hC (v := (-9999)) dX5_readSight_105 rfl ?_
      refine q_sipush hC (v := 9999) dX5_readSight_108 rfl ?_
      refine q_cVI hC hnt (stk := []) (as := [.int 1, .int (-9999), .int 9999]) sX5_readNumber (ci := 5) (by decide) rfl nX5_readNumber rfl w_267 w_269 w_270 w_144 w_268 (Nat.le_of_ble_eq_true rfl) dX5_readSight_111 rfl (fun v4 => ?_)
      refine q_if_ne hC 119 dX5_readSight_114 rfl ?_ ?_
      · refine q_aload_n hC 1 dX5_readSight_119 rfl rfl ?_
        refine q_getI hC (by decide) (by decide) rfl w_72 dX5_readSight_120 (fun v5 => ?_)
        refine q_istoreA hC (loc' := [(4, .int v5), (3, .int 1), (0, .ref x0), (1, .int x1), (2, .int x2)]) dX5_readSight_123 (Nat.le_of_ble_eq_true rfl) rfl ?_
        refine q_bipush hC (v := 20) dX5_readSight_125 rfl ?_
        refine q_istoreA hC (loc' := [(5, .int 20), (4, .int v5), (3, .int 1), (0, .ref x0), (1, .int x1), (2, .int x2)]) dX5_readSight_127 (Nat.le_of_ble_eq_true rfl) rfl ?_
        refine q_aload_n hC 3 dX5_readSight_129 rfl rfl ?_
        refine q_getR hC (by decide) (by decide) rfl w_77 dX5_readSight_130 (fun r6 => ?_)
        refine q_getI hC (by decide) (by decide) rfl w_240 dX5_readSight_133 (fun v7 => ?_)
        refine q_iconst hC dX5_readSight_136 rfl ?_
        refine q_ic_ne hC 167 dX5_readSight_137 rfl ?_ ?_
        · refine q_aload_n hC 3 dX5_readSight_167 rfl rfl ?_
          refine q_getR hC (by decide) (by decide) rfl w_68 dX5_readSight_168 (fun r8 => ?_)
          refine q_iload_n hC 4 dX5_readSight_171 rfl rfl ?_
          refine q_iload_n hC 5 dX5_readSight_172 rfl rfl ?_
          refine q_iload_n hC 2 dX5_readSight_173 rfl rfl ?_
          refine q_iload hC 1 dX5_readSight_174 rfl ?_
          refine q_iload hC 0 dX5_readSight_176 rfl ?_
          refine q_cVI hC hnt (stk := []) (as := [.int x1, .int x2, .int 1, .int v5, .int 20]) sX6_add (ci := 6) (by decide) rfl nX6_add rfl w_280 w_282 w_283 w_35 w_281 (Nat.le_of_ble_eq_true rfl) dX5_readSight_178 rfl (fun v9 => ?_)
          refine q_popI hC dX5_readSight_181 ?_
          refine q_iconst hC dX5_readSight_182 rfl ?_
          exact q_zret hC dX5_readSight_183 (Nat.le_of_ble_eq_true rfl) (Nat.le_of_ble_eq_true rfl)
        · refine q_aload_n hC 3 dX5_readSight_140 rfl rfl ?_
          refine q_getR hC (by decide) (by decide) rfl w_77 dX5_readSight_141 (fun r10 => ?_)
          refine q_cVV hC hnt (stk := []) (as := []) sX8_advance (ci := 8) (by decide) rfl nX8_advance rfl w_239 w_230 w_231 w_76 w_229 (Nat.le_of_ble_eq_true rfl) dX5_readSight_144 rfl ?_
          refine q_aload_n hC 3 dX5_readSight_147 rfl rfl ?_
          refine q_iconst hC dX5_readSight_148 rfl ?_
          refine q_bipush hC (v := (-40)) dX5_readSight_149 rfl ?_
          refine q_bipush hC (v := 60) dX5_readSight_151 rfl ?_
          refine q_cVI hC hnt (stk := []) (as := [.int 1, .int (-40), .int 60]) sX5_readNumber (ci := 5) (by decide) rfl nX5_readNumber rfl w_267 w_269 w_270 w_144 w_268 (Nat.le_of_ble_eq_true rfl) dX5_readSight_153 rfl (fun v11 => ?_)
          refine q_if_ne hC 161 dX5_readSight_156 rfl ?_ ?_
          · refine q_aload_n hC 3 dX5_readSight_161 rfl rfl ?_
            refine q_getI hC (by decide) (by decide) rfl w_72 dX5_readSight_162 (fun v12 => ?_)
            refine q_istoreA hC (loc' := [(5, .int v12), (4, .int v5), (3, .int 1), (0, .ref x0), (1, .int x1), (2, .int x2)]) dX5_readSight_165 (Nat.le_of_ble_eq_true rfl) rfl ?_
            refine q_aload_n hC 3 dX5_readSight_167 rfl rfl ?_
            refine q_getR hC (by decide) (by decide) rfl w_68 dX5_readSight_168 (fun r13 => ?_)
            refine q_iload_n hC 4 dX5_readSight_171 rfl rfl ?_
            refine q_iload_n hC 5 dX5_readSight_172 rfl rfl ?_
            refine q_iload_n hC 2 dX5_readSight_173 rfl rfl ?_
            refine q_iload hC 1 dX5_readSight_174 rfl ?_
            refine q_iload hC 0 dX5_readSight_176 rfl ?_
            refine q_cVI hC hnt (stk := []) (as := [.int x1, .int x2, .int 1, .int v5, .int v12]) sX6_add (ci := 6) (by decide) rfl nX6_add rfl w_280 w_282 w_283 w_35 w_281 (Nat.le_of_ble_eq_true rfl) dX5_readSight_178 rfl (fun v14 => ?_)
            refine q_popI hC dX5_readSight_181 ?_
            refine q_iconst hC dX5_readSight_182 rfl ?_
            exact q_zret hC dX5_readSight_183 (Nat.le_of_ble_eq_true rfl) (Nat.le_of_ble_eq_true rfl)
          · refine q_iconst hC dX5_readSight_159 rfl ?_
            exact q_zret hC dX5_readSight_160 (Nat.le_of_ble_eq_true rfl) (Nat.le_of_ble_eq_true rfl)
      · refine q_iconst hC dX5_readSight_117 rfl ?_
        exact q_zret hC dX5_readSight_118 (Nat.le_of_ble_eq_true rfl) (Nat.le_of_ble_eq_true rfl)
    · refine q_iconst hC dX5_readSight_90 rfl ?_
      refine q_goto hC 95 dX5_readSight_91 rfl ?_
      refine q_istore_nA hC (loc' := [(3, .int 0), (0, .ref x0), (1, .int x1), (2, .int x2)]) dX5_readSight_95 rfl (Nat.le_of_ble_eq_true rfl) rfl ?_
      refine q_aload_n hC 1 dX5_readSight_96 rfl rfl ?_
      refine q_getR hC (by decide) (by decide) rfl w_77 dX5_readSight_97 (fun r15 => ?_)
      refine q_cVV hC hnt (stk := []) (as := []) sX8_advance (ci := 8) (by decide) rfl nX8_advance rfl w_239 w_230 w_231 w_76 w_229 (Nat.le_of_ble_eq_true rfl) dX5_readSight_100 rfl ?_
      refine q_aload_n hC 1 dX5_readSight_103 rfl rfl ?_
      refine q_iconst hC dX5_readSight_104 rfl ?_
      refine q_sipush hC (v := (-9999)) dX5_readSight_105 rfl ?_
      refine q_sipush hC (v := 9999) dX5_readSight_108 rfl ?_
      refine q_cVI hC hnt (stk := []) (as := [.int 1, .int (-9999), .int 9999]) sX5_readNumber (ci := 5) (by decide) rfl nX5_readNumber rfl w_267 w_269 w_270 w_144 w_268 (Nat.le_of_ble_eq_true rfl) dX5_readSight_111 rfl (fun v16 => ?_)
      refine q_if_ne hC 119 dX5_readSight_114 rfl ?_ ?_
      · refine q_aload_n hC 1 dX5_readSight_119 rfl rfl ?_
        refine q_getI hC (by decide) (by decide) rfl w_72 dX5_readSight_120 (fun v17 => ?_)
        refine q_istoreA hC (loc' := [(4, .int v17), (3, .int 0), (0, .ref x0), (1, .int x1), (2, .int x2)]) dX5_readSight_123 (Nat.le_of_ble_eq_true rfl) rfl ?_
        refine q_bipush hC (v := 20) dX5_readSight_125 rfl ?_
        refine q_istoreA hC (loc' := [(5, .int 20), (4, .int v17), (3, .int 0), (0, .ref x0), (1, .int x1), (2, .int x2)]) dX5_readSight_127 (Nat.le_of_ble_eq_true rfl) rfl ?_
        refine q_aload_n hC 3 dX5_readSight_129 rfl rfl ?_
        refine q_getR hC (by decide) (by decide) rfl w_77 dX5_readSight_130 (fun r18 => ?_)
        refine q_getI hC (by decide) (by decide) rfl w_240 dX5_readSight_133 (fun v19 => ?_)
        refine q_iconst hC dX5_readSight_136 rfl ?_
        refine q_ic_ne hC 167 dX5_readSight_137 rfl ?_ ?_
        · refine q_aload_n hC 3 dX5_readSight_167 rfl rfl ?_
          refine q_getR hC (by decide) (by decide) rfl w_68 dX5_readSight_168 (fun r20 => ?_)
          refine q_iload_n hC 4 dX5_readSight_171 rfl rfl ?_
          refine q_iload_n hC 5 dX5_readSight_172 rfl rfl ?_
          refine q_iload_n hC 2 dX5_readSight_173 rfl rfl ?_
          refine q_iload hC 1 dX5_readSight_174 rfl ?_
          refine q_iload hC 0 dX5_readSight_176 rfl ?_
          refine q_cVI hC hnt (stk := []) (as := [.int x1, .int x2, .int 0, .int v17, .int 20]) sX6_add (ci := 6) (by decide) rfl nX6_add rfl w_280 w_282 w_283 w_35 w_281 (Nat.le_of_ble_eq_true rfl) dX5_readSight_178 rfl (fun v21 => ?_)
          refine q_popI hC dX5_readSight_181 ?_
          refine q_iconst hC dX5_readSight_182 rfl ?_
          exact q_zret hC dX5_readSight_183 (Nat.le_of_ble_eq_true rfl) (Nat.le_of_ble_eq_true rfl)
        · refine q_aload_n hC 3 dX5_readSight_140 rfl rfl ?_
          refine q_getR hC (by decide) (by decide) rfl w_77 dX5_readSight_141 (fun r22 => ?_)
          refine q_cVV hC hnt (stk := []) (as := []) sX8_advance (ci := 8) (by decide) rfl nX8_advance rfl w_239 w_230 w_231 w_76 w_229 (Nat.le_of_ble_eq_true rfl) dX5_readSight_144 rfl ?_
          refine q_aload_n hC 3 dX5_readSight_147 rfl rfl ?_
          refine q_iconst hC dX5_readSight_148 rfl ?_
          refine q_bipush hC (v := (-40)) dX5_readSight_149 rfl ?_
          refine q_bipush hC (v := 60) dX5_readSight_151 rfl ?_
          refine q_cVI hC hnt (stk := []) (as := [.int 1, .int (-40), .int 60]) sX5_readNumber (ci := 5) (by decide) rfl nX5_readNumber rfl w_267 w_269 w_270 w_144 w_268 (Nat.le_of_ble_eq_true rfl) dX5_readSight_153 rfl (fun v23 => ?_)
          refine q_if_ne hC 161 dX5_readSight_156 rfl ?_ ?_
          · refine q_aload_n hC 3 dX5_readSight_161 rfl rfl ?_
            refine q_getI hC (by decide) (by decide) rfl w_72 dX5_readSight_162 (fun v24 => ?_)
            refine q_istoreA hC (loc' := [(5, .int v24), (4, .int v17), (3, .int 0), (0, .ref x0), (1, .int x1), (2, .int x2)]) dX5_readSight_165 (Nat.le_of_ble_eq_true rfl) rfl ?_
            refine q_aload_n hC 3 dX5_readSight_167 rfl rfl ?_
            refine q_getR hC (by decide) (by decide) rfl w_68 dX5_readSight_168 (fun r25 => ?_)
            refine q_iload_n hC 4 dX5_readSight_171 rfl rfl ?_
            refine q_iload_n hC 5 dX5_readSight_172 rfl rfl ?_
            refine q_iload_n hC 2 dX5_readSight_173 rfl rfl ?_
            refine q_iload hC 1 dX5_readSight_174 rfl ?_
            refine q_iload hC 0 dX5_readSight_176 rfl ?_
            refine q_cVI hC hnt (stk := []) (as := [.int x1, .int x2, .int 0, .int v17, .int v24]) sX6_add (ci := 6) (by decide) rfl nX6_add rfl w_280 w_282 w_283 w_35 w_281 (Nat.le_of_ble_eq_true rfl) dX5_readSight_178 rfl (fun v26 => ?_)
            refine q_popI hC dX5_readSight_181 ?_
            refine q_iconst hC dX5_readSight_182 rfl ?_
            exact q_zret hC dX5_readSight_183 (Nat.le_of_ble_eq_true rfl) (Nat.le_of_ble_eq_true rfl)
          · refine q_iconst hC dX5_readSight_159 rfl ?_
            exact q_zret hC dX5_readSight_160 (Nat.le_of_ble_eq_true rfl) (Nat.le_of_ble_eq_true rfl)
      · refine q_iconst hC dX5_readSight_117 rfl ?_
        exact q_zret hC dX5_readSight_118 (Nat.le_of_ble_eq_true rfl) (Nat.le_of_ble_eq_true rfl)
  · exact c_no
theorem sX5_readSight : Snd yX5_readSight (.code yX5_readSight cX5_readSight 6 (some .boolean)) rmX5_readSight SX5_readSight := by
  refine Snd.of lX5_readSight (by decide +kernel) (fun _ => rfl) ?_
  intro Γ hC hnt hnm J hJ L a
  match L with
  | 0 => exact pX5_readSight_0 hC hnt J hJ a
  | 1 => exact pX5_readSight_1 hC hnt J hJ a
  | L + 2 => exact c_no
/-! SpiritWall$Reader.tellOnce(I)Z -/
theorem dX5_tellOnce_0 : decode cX5_tellOnce 0 = .ok (.aload_n 0, 1) := by decide +kernel
theorem dX5_tellOnce_1 : decode cX5_tellOnce 1 = .ok (.getfield 25, 3) := by decide +kernel
theorem dX5_tellOnce_4 : decode cX5_tellOnce 4 = .ok (.iload_n 1, 1) := by decide +kernel
theorem dX5_tellOnce_5 : decode cX5_tellOnce 5 = .ok (.invokestatic 136, 3) := by decide +kernel
theorem dX5_tellOnce_8 : decode cX5_tellOnce 8 = .ok (.iconst 1, 1) := by decide +kernel
theorem dX5_tellOnce_9 : decode cX5_tellOnce 9 = .ok (.if_icmp .ne 9, 3) := by decide +kernel
theorem dX5_tellOnce_12 : decode cX5_tellOnce 12 = .ok (.aload_n 0, 1) := by decide +kernel
theorem dX5_tellOnce_13 : decode cX5_tellOnce 13 = .ok (.iconst 3, 1) := by decide +kernel
theorem dX5_tellOnce_14 : decode cX5_tellOnce 14 = .ok (.invokevirtual 74, 3) := by decide +kernel
theorem dX5_tellOnce_17 : decode cX5_tellOnce 17 = .ok (.ireturn, 1) := by decide +kernel
theorem dX5_tellOnce_18 : decode cX5_tellOnce 18 = .ok (.aload_n 0, 1) := by decide +kernel
theorem dX5_tellOnce_19 : decode cX5_tellOnce 19 = .ok (.getfield 25, 3) := by decide +kernel
theorem dX5_tellOnce_22 : decode cX5_tellOnce 22 = .ok (.iload_n 1, 1) := by decide +kernel
theorem dX5_tellOnce_23 : decode cX5_tellOnce 23 = .ok (.iconst 1, 1) := by decide +kernel
theorem dX5_tellOnce_24 : decode cX5_tellOnce 24 = .ok (.invokestatic 146, 3) := by decide +kernel
theorem dX5_tellOnce_27 : decode cX5_tellOnce 27 = .ok (.aload_n 0, 1) := by decide +kernel
theorem dX5_tellOnce_28 : decode cX5_tellOnce 28 = .ok (.getfield 44, 3) := by decide +kernel
theorem dX5_tellOnce_31 : decode cX5_tellOnce 31 = .ok (.invokevirtual 78, 3) := by decide +kernel
theorem dX5_tellOnce_34 : decode cX5_tellOnce 34 = .ok (.iconst 1, 1) := by decide +kernel
theorem dX5_tellOnce_35 : decode cX5_tellOnce 35 = .ok (.ireturn, 1) := by decide +kernel
def rmX5_tellOnce : Room := rmk 9 0 0 213
theorem nX5_tellOnce : nameOk yX5_tellOnce 1 = true := by decide +kernel
def bX5_tellOnce_0 (J : JT) : List Value → Sem
  | [.ref x0, .int x1] =>
    gR 5 3 x0 fun r1 =>
    cI SX10_cell [.ref r1, .int x1] fun v2 =>
    br (v2 = (1 : Int32))
    (ob 5 x0 (cI SX5_fail [.ref x0, .int 3] fun v5 =>
    rZ v5))
    (gR 5 3 x0 fun r3 =>
    cV SX10_put [.ref r3, .int x1, .int 1] <|
    gR 5 0 x0 fun r4 =>
    ob 8 r4 (cV SX8_advance [.ref r4] <|
    rZ 1))
  | _ => no
def bX5_tellOnce (J : JT) : JT := fun L a => match L with
  | 0 => bX5_tellOnce_0 J a
  | _ => no
def SX5_tellOnce : ST := mk 2 bX5_tellOnce
def lX5_tellOnce (L : Nat) (a : List Value) : Nat × Nat × Nat × List (Nat × Value) × List Value := match L with
  | 0 => (0, 0, 0, lv_args 0 a, [])
  | _ => (0, 0, 0, [], [])
theorem pX5_tellOnce_0 {Γ : CT} (hC : Ctx Γ "SpiritWall$Reader" cX5_tellOnce 2 (some .boolean) rmX5_tellOnce) (hnt : NT Γ) (J : JT) (hJ : ∀ L a, Cor Γ 2 (lX5_tellOnce L a).1 (lX5_tellOnce L a).2.1 (lX5_tellOnce L a).2.2.1 (lX5_tellOnce L a).2.2.2.1 (lX5_tellOnce L a).2.2.2.2 (J L a)) (a : List Value) : Cor Γ 2 0 0 0 (lv_args 0 a) [] (bX5_tellOnce_0 J a) := by
  unfold bX5_tellOnce_0
  split
  · rename_i x0 x1
    refine c_sub [0, 1] rfl (loc' := [(0, .ref x0), (1, .int x1)]) ?_
    refine q_aload_n hC 0 dX5_tellOnce_0 rfl rfl ?_
    refine q_getR hC (by decide) (by decide) rfl w_69 dX5_tellOnce_1 (fun r1 => ?_)
    refine q_iload_n hC 1 dX5_tellOnce_4 rfl rfl ?_
    refine q_cNI hC hnt (stk := []) (as := [.ref r1, .int x1]) sX10_cell nX10_cell rfl w_284 w_202 w_27 w_201 (Nat.le_of_ble_eq_true rfl) dX5_tellOnce_5 rfl (fun v2 => ?_)
    refine q_iconst hC dX5_tellOnce_8 rfl ?_
    refine q_ic_ne hC 18 dX5_tellOnce_9 rfl ?_ ?_
    · refine q_aload_n hC 0 dX5_tellOnce_18 rfl rfl ?_
      refine q_getR hC (by decide) (by decide) rfl w_69 dX5_tellOnce_19 (fun r3 => ?_)
      refine q_iload_n hC 1 dX5_tellOnce_22 rfl rfl ?_
      refine q_iconst hC dX5_tellOnce_23 rfl ?_
      refine q_cNV hC hnt (stk := []) (as := [.ref r3, .int x1, .int 1]) sX10_put nX10_put rfl w_285 w_187 w_27 w_186 (Nat.le_of_ble_eq_true rfl) dX5_tellOnce_24 rfl ?_
      refine q_aload_n hC 0 dX5_tellOnce_27 rfl rfl ?_
      refine q_getR hC (by decide) (by decide) rfl w_77 dX5_tellOnce_28 (fun r4 => ?_)
      refine q_cVV hC hnt (stk := []) (as := []) sX8_advance (ci := 8) (by decide) rfl nX8_advance rfl w_239 w_230 w_231 w_76 w_229 (Nat.le_of_ble_eq_true rfl) dX5_tellOnce_31 rfl ?_
      refine q_iconst hC dX5_tellOnce_34 rfl ?_
      exact q_zret hC dX5_tellOnce_35 (Nat.le_of_ble_eq_true rfl) (Nat.le_of_ble_eq_true rfl)
    · refine q_aload_n hC 0 dX5_tellOnce_12 rfl rfl ?_
      refine q_iconst hC dX5_tellOnce_13 rfl ?_
      refine q_cVI hC hnt (stk := []) (as := [.int 3]) sX5_fail (ci := 5) (by decide) rfl nX5_fail rfl w_242 w_244 w_245 w_144 w_243 (Nat.le_of_ble_eq_true rfl) dX5_tellOnce_14 rfl (fun v5 => ?_)
      exact q_zret hC dX5_tellOnce_17 (Nat.le_of_ble_eq_true rfl) (Nat.le_of_ble_eq_true rfl)
  · exact c_no
theorem sX5_tellOnce : Snd yX5_tellOnce (.code yX5_tellOnce cX5_tellOnce 2 (some .boolean)) rmX5_tellOnce SX5_tellOnce := by
  refine Snd.of lX5_tellOnce (by decide +kernel) (fun _ => rfl) ?_
  intro Γ hC hnt hnm J hJ L a
  match L with
  | 0 => exact pX5_tellOnce_0 hC hnt J hJ a
  | L + 1 => exact c_no
/-! SpiritWall$Reader.readSetting(IZ)Z -/
theorem dX5_readSetting_0 : decode cX5_readSetting 0 = .ok (.aload_n 0, 1) := by decide +kernel
theorem dX5_readSetting_1 : decode cX5_readSetting 1 = .ok (.iload_n 1, 1) := by decide +kernel
theorem dX5_readSetting_2 : decode cX5_readSetting 2 = .ok (.invokevirtual 130, 3) := by decide +kernel
theorem dX5_readSetting_5 : decode cX5_readSetting 5 = .ok (.ifCond .ne 5, 3) := by decide +kernel
theorem dX5_readSetting_8 : decode cX5_readSetting 8 = .ok (.iconst 0, 1) := by decide +kernel
theorem dX5_readSetting_9 : decode cX5_readSetting 9 = .ok (.ireturn, 1) := by decide +kernel
theorem dX5_readSetting_10 : decode cX5_readSetting 10 = .ok (.aload_n 0, 1) := by decide +kernel
theorem dX5_readSetting_11 : decode cX5_readSetting 11 = .ok (.iload_n 2, 1) := by decide +kernel
theorem dX5_readSetting_12 : decode cX5_readSetting 12 = .ok (.getstatic 133, 3) := by decide +kernel
theorem dX5_readSetting_15 : decode cX5_readSetting 15 = .ok (.iload_n 1, 1) := by decide +kernel
theorem dX5_readSetting_16 : decode cX5_readSetting 16 = .ok (.invokestatic 136, 3) := by decide +kernel
theorem dX5_readSetting_19 : decode cX5_readSetting 19 = .ok (.getstatic 140, 3) := by decide +kernel
theorem dX5_readSetting_22 : decode cX5_readSetting 22 = .ok (.iload_n 1, 1) := by decide +kernel
theorem dX5_readSetting_23 : decode cX5_readSetting 23 = .ok (.invokestatic 136, 3) := by decide +kernel
theorem dX5_readSetting_26 : decode cX5_readSetting 26 = .ok (.invokevirtual 113, 3) := by decide +kernel
theorem dX5_readSetting_29 : decode cX5_readSetting 29 = .ok (.ifCond .ne 5, 3) := by decide +kernel
theorem dX5_readSetting_32 : decode cX5_readSetting 32 = .ok (.iconst 0, 1) := by decide +kernel
theorem dX5_readSetting_33 : decode cX5_readSetting 33 = .ok (.ireturn, 1) := by decide +kernel
theorem dX5_readSetting_34 : decode cX5_readSetting 34 = .ok (.aload_n 0, 1) := by decide +kernel
theorem dX5_readSetting_35 : decode cX5_readSetting 35 = .ok (.getfield 21, 3) := by decide +kernel
theorem dX5_readSetting_38 : decode cX5_readSetting 38 = .ok (.getfield 143, 3) := by decide +kernel
theorem dX5_readSetting_41 : decode cX5_readSetting 41 = .ok (.iload_n 1, 1) := by decide +kernel
theorem dX5_readSetting_42 : decode cX5_readSetting 42 = .ok (.aload_n 0, 1) := by decide +kernel
theorem dX5_readSetting_43 : decode cX5_readSetting 43 = .ok (.getfield 36, 3) := by decide +kernel
theorem dX5_readSetting_46 : decode cX5_readSetting 46 = .ok (.invokestatic 146, 3) := by decide +kernel
theorem dX5_readSetting_49 : decode cX5_readSetting 49 = .ok (.iconst 1, 1) := by decide +kernel
theorem dX5_readSetting_50 : decode cX5_readSetting 50 = .ok (.ireturn, 1) := by decide +kernel
def rmX5_readSetting : Room := rmk 10 0 0 237
theorem nX5_readSetting : nameOk yX5_readSetting 2 = true := by decide +kernel
def bX5_readSetting_0 (J : JT) : List Value → Sem
  | [.ref x0, .int x1, .int x2] =>
    ob 5 x0 (cI SX5_tellOnce [.ref x0, .int x1] fun v1 =>
    br (v1 = 0)
    (rZ 0)
    (cI SX10_cell [.ref 1000, .int x1] fun v2 =>
    cI SX10_cell [.ref 1001, .int x1] fun v3 =>
    ob 5 x0 (cI SX5_readNumber [.ref x0, .int x2, .int v2, .int v3] fun v4 =>
    br (v4 = 0)
    (rZ 0)
    (gR 5 2 x0 fun r5 =>
    gR 6 0 r5 fun r6 =>
    gI 5 6 x0 fun v7 =>
    cV SX10_put [.ref r6, .int x1, .int v7] <|
    rZ 1))))
  | _ => no
def bX5_readSetting (J : JT) : JT := fun L a => match L with
  | 0 => bX5_readSetting_0 J a
  | _ => no
def SX5_readSetting : ST := mk 3 bX5_readSetting
def lX5_readSetting (L : Nat) (a : List Value) : Nat × Nat × Nat × List (Nat × Value) × List Value := match L with
  | 0 => (0, 0, 0, lv_args 0 a, [])
  | _ => (0, 0, 0, [], [])
theorem pX5_readSetting_0 {Γ : CT} (hC : Ctx Γ "SpiritWall$Reader" cX5_readSetting 3 (some .boolean) rmX5_readSetting) (hnt : NT Γ) (J : JT) (hJ : ∀ L a, Cor Γ 3 (lX5_readSetting L a).1 (lX5_readSetting L a).2.1 (lX5_readSetting L a).2.2.1 (lX5_readSetting L a).2.2.2.1 (lX5_readSetting L a).2.2.2.2 (J L a)) (a : List Value) : Cor Γ 3 0 0 0 (lv_args 0 a) [] (bX5_readSetting_0 J a) := by
  unfold bX5_readSetting_0
  split
  · rename_i x0 x1 x2
    refine c_sub [0, 1, 2] rfl (loc' := [(0, .ref x0), (1, .int x1), (2, .int x2)]) ?_
    refine q_aload_n hC 0 dX5_readSetting_0 rfl rfl ?_
    refine q_iload_n hC 1 dX5_readSetting_1 rfl rfl ?_
    refine q_cVI hC hnt (stk := []) (as := [.int x1]) sX5_tellOnce (ci := 5) (by decide) rfl nX5_tellOnce rfl w_286 w_288 w_289 w_144 w_287 (Nat.le_of_ble_eq_true rfl) dX5_readSetting_2 rfl (fun v1 => ?_)
    refine q_if_ne hC 10 dX5_readSetting_5 rfl ?_ ?_
    · refine q_aload_n hC 0 dX5_readSetting_10 rfl rfl ?_
      refine q_iload_n hC 2 dX5_readSetting_11 rfl rfl ?_
      refine q_getsN hC (i := 0) (by decide) w_290 dX5_readSetting_12 ?_
      refine q_iload_n hC 1 dX5_readSetting_15 rfl rfl ?_
      refine q_cNI hC hnt (stk := [.int x2, .ref x0]) (as := [.ref 1000, .int x1]) sX10_cell nX10_cell rfl w_284 w_202 w_27 w_201 (Nat.le_of_ble_eq_true rfl) dX5_readSetting_16 rfl (fun v2 => ?_)
      refine q_getsN hC (i := 1) (by decide) w_291 dX5_readSetting_19 ?_
      refine q_iload_n hC 1 dX5_readSetting_22 rfl rfl ?_
      refine q_cNI hC hnt (stk := [.int v2, .int x2, .ref x0]) (as := [.ref 1001, .int x1]) sX10_cell nX10_cell rfl w_284 w_202 w_27 w_201 (Nat.le_of_ble_eq_true rfl) dX5_readSetting_23 rfl (fun v3 => ?_)
      refine q_cVI hC hnt (stk := []) (as := [.int x2, .int v2, .int v3]) sX5_readNumber (ci := 5) (by decide) rfl nX5_readNumber rfl w_267 w_269 w_270 w_144 w_268 (Nat.le_of_ble_eq_true rfl) dX5_readSetting_26 rfl (fun v4 => ?_)
      refine q_if_ne hC 34 dX5_readSetting_29 rfl ?_ ?_
      · refine q_aload_n hC 0 dX5_readSetting_34 rfl rfl ?_
        refine q_getR hC (by decide) (by decide) rfl w_68 dX5_readSetting_35 (fun r5 => ?_)
        refine q_getR hC (by decide) (by decide) rfl w_292 dX5_readSetting_38 (fun r6 => ?_)
        refine q_iload_n hC 1 dX5_readSetting_41 rfl rfl ?_
        refine q_aload_n hC 0 dX5_readSetting_42 rfl rfl ?_
        refine q_getI hC (by decide) (by decide) rfl w_72 dX5_readSetting_43 (fun v7 => ?_)
        refine q_cNV hC hnt (stk := []) (as := [.ref r6, .int x1, .int v7]) sX10_put nX10_put rfl w_285 w_187 w_27 w_186 (Nat.le_of_ble_eq_true rfl) dX5_readSetting_46 rfl ?_
        refine q_iconst hC dX5_readSetting_49 rfl ?_
        exact q_zret hC dX5_readSetting_50 (Nat.le_of_ble_eq_true rfl) (Nat.le_of_ble_eq_true rfl)
      · refine q_iconst hC dX5_readSetting_32 rfl ?_
        exact q_zret hC dX5_readSetting_33 (Nat.le_of_ble_eq_true rfl) (Nat.le_of_ble_eq_true rfl)
    · refine q_iconst hC dX5_readSetting_8 rfl ?_
      exact q_zret hC dX5_readSetting_9 (Nat.le_of_ble_eq_true rfl) (Nat.le_of_ble_eq_true rfl)
  · exact c_no
theorem sX5_readSetting : Snd yX5_readSetting (.code yX5_readSetting cX5_readSetting 3 (some .boolean)) rmX5_readSetting SX5_readSetting := by
  refine Snd.of lX5_readSetting (by decide +kernel) (fun _ => rfl) ?_
  intro Γ hC hnt hnm J hJ L a
  match L with
  | 0 => exact pX5_readSetting_0 hC hnt J hJ a
  | L + 1 => exact c_no
/-! SpiritWall$Reader.readError()Z -/
theorem dX5_readError_0 : decode cX5_readError 0 = .ok (.aload_n 0, 1) := by decide +kernel
theorem dX5_readError_1 : decode cX5_readError 1 = .ok (.iconst 4, 1) := by decide +kernel
theorem dX5_readError_2 : decode cX5_readError 2 = .ok (.invokevirtual 130, 3) := by decide +kernel
theorem dX5_readError_5 : decode cX5_readError 5 = .ok (.ifCond .eq 17, 3) := by decide +kernel
theorem dX5_readError_8 : decode cX5_readError 8 = .ok (.aload_n 0, 1) := by decide +kernel
theorem dX5_readError_9 : decode cX5_readError 9 = .ok (.iconst 1, 1) := by decide +kernel
theorem dX5_readError_10 : decode cX5_readError 10 = .ok (.sipush (-999), 3) := by decide +kernel
theorem dX5_readError_13 : decode cX5_readError 13 = .ok (.sipush 999, 3) := by decide +kernel
theorem dX5_readError_16 : decode cX5_readError 16 = .ok (.invokevirtual 113, 3) := by decide +kernel
theorem dX5_readError_19 : decode cX5_readError 19 = .ok (.ifCond .ne 5, 3) := by decide +kernel
theorem dX5_readError_22 : decode cX5_readError 22 = .ok (.iconst 0, 1) := by decide +kernel
theorem dX5_readError_23 : decode cX5_readError 23 = .ok (.ireturn, 1) := by decide +kernel
theorem dX5_readError_24 : decode cX5_readError 24 = .ok (.aload_n 0, 1) := by decide +kernel
theorem dX5_readError_25 : decode cX5_readError 25 = .ok (.getfield 21, 3) := by decide +kernel
theorem dX5_readError_28 : decode cX5_readError 28 = .ok (.iconst 1, 1) := by decide +kernel
theorem dX5_readError_29 : decode cX5_readError 29 = .ok (.putfield 150, 3) := by decide +kernel
theorem dX5_readError_32 : decode cX5_readError 32 = .ok (.aload_n 0, 1) := by decide +kernel
theorem dX5_readError_33 : decode cX5_readError 33 = .ok (.getfield 21, 3) := by decide +kernel
theorem dX5_readError_36 : decode cX5_readError 36 = .ok (.aload_n 0, 1) := by decide +kernel
theorem dX5_readError_37 : decode cX5_readError 37 = .ok (.getfield 36, 3) := by decide +kernel
theorem dX5_readError_40 : decode cX5_readError 40 = .ok (.putfield 154, 3) := by decide +kernel
theorem dX5_readError_43 : decode cX5_readError 43 = .ok (.iconst 1, 1) := by decide +kernel
theorem dX5_readError_44 : decode cX5_readError 44 = .ok (.ireturn, 1) := by decide +kernel
def rmX5_readError : Room := rmk 10 0 0 237
theorem nX5_readError : nameOk yX5_readError 0 = true := by decide +kernel
def bX5_readError_0 (J : JT) : List Value → Sem
  | [.ref x0] =>
    ob 5 x0 (cI SX5_tellOnce [.ref x0, .int 4] fun v1 =>
    br (v1 = 0)
    (rZ 0)
    (ob 5 x0 (cI SX5_readNumber [.ref x0, .int 1, .int (-999), .int 999] fun v2 =>
    br (v2 = 0)
    (rZ 0)
    (gR 5 2 x0 fun r3 =>
    pZ 6 1 r3 1 <|
    gR 5 2 x0 fun r4 =>
    gI 5 6 x0 fun v5 =>
    pI 6 2 r4 v5 <|
    rZ 1))))
  | _ => no
def bX5_readError (J : JT) : JT := fun L a => match L with
  | 0 => bX5_readError_0 J a
  | _ => no
def SX5_readError : ST := mk 1 bX5_readError
def lX5_readError (L : Nat) (a : List Value) : Nat × Nat × Nat × List (Nat × Value) × List Value := match L with
  | 0 => (0, 0, 0, lv_args 0 a, [])
  | _ => (0, 0, 0, [], [])
theorem pX5_readError_0 {Γ : CT} (hC : Ctx Γ "SpiritWall$Reader" cX5_readError 1 (some .boolean) rmX5_readError) (hnt : NT Γ) (J : JT) (hJ : ∀ L a, Cor Γ 1 (lX5_readError L a).1 (lX5_readError L a).2.1 (lX5_readError L a).2.2.1 (lX5_readError L a).2.2.2.1 (lX5_readError L a).2.2.2.2 (J L a)) (a : List Value) : Cor Γ 1 0 0 0 (lv_args 0 a) [] (bX5_readError_0 J a) := by
  unfold bX5_readError_0
  split
  · rename_i x0
    refine c_sub [0] rfl (loc' := [(0, .ref x0)]) ?_
    refine q_aload_n hC 0 dX5_readError_0 rfl rfl ?_
    refine q_iconst hC dX5_readError_1 rfl ?_
    refine q_cVI hC hnt (stk := []) (as := [.int 4]) sX5_tellOnce (ci := 5) (by decide) rfl nX5_tellOnce rfl w_286 w_288 w_289 w_144 w_287 (Nat.le_of_ble_eq_true rfl) dX5_readError_2 rfl (fun v1 => ?_)
    refine q_if_eq hC 22 dX5_readError_5 rfl ?_ ?_
    · refine q_iconst hC dX5_readError_22 rfl ?_
      exact q_zret hC dX5_readError_23 (Nat.le_of_ble_eq_true rfl) (Nat.le_of_ble_eq_true rfl)
    · refine q_aload_n hC 0 dX5_readError_8 rfl rfl ?_
      refine q_iconst hC dX5_readError_9 rfl ?_
      refine q_sipush hC (v := (-999)) dX5_readError_10 rfl ?_
      refine q_sipush hC (v := 999) dX5_readError_13 rfl ?_
      refine q_cVI hC hnt (stk := []) (as := [.int 1, .int (-999), .int 999]) sX5_readNumber (ci := 5) (by decide) rfl nX5_readNumber rfl w_267 w_269 w_270 w_144 w_268 (Nat.le_of_ble_eq_true rfl) dX5_readError_16 rfl (fun v2 => ?_)
      refine q_if_ne hC 24 dX5_readError_19 rfl ?_ ?_
      · refine q_aload_n hC 0 dX5_readError_24 rfl rfl ?_
        refine q_getR hC (by decide) (by decide) rfl w_68 dX5_readError_25 (fun r3 => ?_)
        refine q_iconst hC dX5_readError_28 rfl ?_
        refine q_putZ hC (by decide) (by decide) rfl rfl w_293 dX5_readError_29 ?_
        refine q_aload_n hC 0 dX5_readError_32 rfl rfl ?_
        refine q_getR hC (by decide) (by decide) rfl w_68 dX5_readError_33 (fun r4 => ?_)
        refine q_aload_n hC 0 dX5_readError_36 rfl rfl ?_
        refine q_getI hC (by decide) (by decide) rfl w_72 dX5_readError_37 (fun v5 => ?_)
        refine q_putI hC (by decide) (by decide) rfl rfl w_294 dX5_readError_40 ?_
        refine q_iconst hC dX5_readError_43 rfl ?_
        exact q_zret hC dX5_readError_44 (Nat.le_of_ble_eq_true rfl) (Nat.le_of_ble_eq_true rfl)
      · refine q_iconst hC dX5_readError_22 rfl ?_
        exact q_zret hC dX5_readError_23 (Nat.le_of_ble_eq_true rfl) (Nat.le_of_ble_eq_true rfl)
  · exact c_no
theorem sX5_readError : Snd yX5_readError (.code yX5_readError cX5_readError 1 (some .boolean)) rmX5_readError SX5_readError := by
  refine Snd.of lX5_readError (by decide +kernel) (fun _ => rfl) ?_
  intro Γ hC hnt hnm J hJ L a
  match L with
  | 0 => exact pX5_readError_0 hC hnt J hJ a
  | L + 1 => exact c_no
/-! SpiritWall$Reader.readStatement()Z -/
theorem dX5_readStatement_0 : decode cX5_readStatement 0 = .ok (.aload_n 0, 1) := by decide +kernel
theorem dX5_readStatement_1 : decode cX5_readStatement 1 = .ok (.getfield 44, 3) := by decide +kernel
theorem dX5_readStatement_4 : decode cX5_readStatement 4 = .ok (.getfield 61, 3) := by decide +kernel
theorem dX5_readStatement_7 : decode cX5_readStatement 7 = .ok (.tableswitch 100 0 10 #[57, 100, 62, 100, 100, 100, 67, 95, 74, 81, 88], 57) := by decide +kernel
theorem dX5_readStatement_64 : decode cX5_readStatement 64 = .ok (.aload_n 0, 1) := by decide +kernel
theorem dX5_readStatement_65 : decode cX5_readStatement 65 = .ok (.invokevirtual 81, 3) := by decide +kernel
theorem dX5_readStatement_68 : decode cX5_readStatement 68 = .ok (.ireturn, 1) := by decide +kernel
theorem dX5_readStatement_69 : decode cX5_readStatement 69 = .ok (.aload_n 0, 1) := by decide +kernel
theorem dX5_readStatement_70 : decode cX5_readStatement 70 = .ok (.invokevirtual 84, 3) := by decide +kernel
theorem dX5_readStatement_73 : decode cX5_readStatement 73 = .ok (.ireturn, 1) := by decide +kernel
theorem dX5_readStatement_74 : decode cX5_readStatement 74 = .ok (.aload_n 0, 1) := by decide +kernel
theorem dX5_readStatement_75 : decode cX5_readStatement 75 = .ok (.iconst 0, 1) := by decide +kernel
theorem dX5_readStatement_76 : decode cX5_readStatement 76 = .ok (.iconst 0, 1) := by decide +kernel
theorem dX5_readStatement_77 : decode cX5_readStatement 77 = .ok (.invokevirtual 87, 3) := by decide +kernel
theorem dX5_readStatement_80 : decode cX5_readStatement 80 = .ok (.ireturn, 1) := by decide +kernel
theorem dX5_readStatement_81 : decode cX5_readStatement 81 = .ok (.aload_n 0, 1) := by decide +kernel
theorem dX5_readStatement_82 : decode cX5_readStatement 82 = .ok (.iconst 1, 1) := by decide +kernel
theorem dX5_readStatement_83 : decode cX5_readStatement 83 = .ok (.iconst 0, 1) := by decide +kernel
theorem dX5_readStatement_84 : decode cX5_readStatement 84 = .ok (.invokevirtual 87, 3) := by decide +kernel
theorem dX5_readStatement_87 : decode cX5_readStatement 87 = .ok (.ireturn, 1) := by decide +kernel
theorem dX5_readStatement_88 : decode cX5_readStatement 88 = .ok (.aload_n 0, 1) := by decide +kernel
theorem dX5_readStatement_89 : decode cX5_readStatement 89 = .ok (.iconst 2, 1) := by decide +kernel
theorem dX5_readStatement_90 : decode cX5_readStatement 90 = .ok (.iconst 1, 1) := by decide +kernel
theorem dX5_readStatement_91 : decode cX5_readStatement 91 = .ok (.invokevirtual 87, 3) := by decide +kernel
theorem dX5_readStatement_94 : decode cX5_readStatement 94 = .ok (.ireturn, 1) := by decide +kernel
theorem dX5_readStatement_95 : decode cX5_readStatement 95 = .ok (.aload_n 0, 1) := by decide +kernel
theorem dX5_readStatement_96 : decode cX5_readStatement 96 = .ok (.iconst 3, 1) := by decide +kernel
theorem dX5_readStatement_97 : decode cX5_readStatement 97 = .ok (.iconst 0, 1) := by decide +kernel
theorem dX5_readStatement_98 : decode cX5_readStatement 98 = .ok (.invokevirtual 87, 3) := by decide +kernel
theorem dX5_readStatement_101 : decode cX5_readStatement 101 = .ok (.ireturn, 1) := by decide +kernel
theorem dX5_readStatement_102 : decode cX5_readStatement 102 = .ok (.aload_n 0, 1) := by decide +kernel
theorem dX5_readStatement_103 : decode cX5_readStatement 103 = .ok (.invokevirtual 91, 3) := by decide +kernel
theorem dX5_readStatement_106 : decode cX5_readStatement 106 = .ok (.ireturn, 1) := by decide +kernel
theorem dX5_readStatement_107 : decode cX5_readStatement 107 = .ok (.aload_n 0, 1) := by decide +kernel
theorem dX5_readStatement_108 : decode cX5_readStatement 108 = .ok (.iconst 1, 1) := by decide +kernel
theorem dX5_readStatement_109 : decode cX5_readStatement 109 = .ok (.invokevirtual 74, 3) := by decide +kernel
theorem dX5_readStatement_112 : decode cX5_readStatement 112 = .ok (.ireturn, 1) := by decide +kernel
def rmX5_readStatement : Room := rmk 11 0 0 262
theorem nX5_readStatement : nameOk yX5_readStatement 0 = true := by decide +kernel
def bX5_readStatement_0 (J : JT) : List Value → Sem
  | [.ref x0] =>
    gR 5 0 x0 fun r1 =>
    gI 8 2 r1 fun v2 =>
    sw v2 (0) 11 fun k => match k with
    | 0 => (ob 5 x0 (cI SX5_readMark [.ref x0] fun v3 =>
    rZ v3))
    | 1 => (ob 5 x0 (cI SX5_fail [.ref x0, .int 1] fun v4 =>
    rZ v4))
    | 2 => (ob 5 x0 (cI SX5_readSight [.ref x0] fun v5 =>
    rZ v5))
    | 3 => (ob 5 x0 (cI SX5_fail [.ref x0, .int 1] fun v6 =>
    rZ v6))
    | 4 => (ob 5 x0 (cI SX5_fail [.ref x0, .int 1] fun v7 =>
    rZ v7))
    | 5 => (ob 5 x0 (cI SX5_fail [.ref x0, .int 1] fun v8 =>
    rZ v8))
    | 6 => (ob 5 x0 (cI SX5_readSetting [.ref x0, .int 0, .int 0] fun v9 =>
    rZ v9))
    | 7 => (ob 5 x0 (cI SX5_readError [.ref x0] fun v10 =>
    rZ v10))
    | 8 => (ob 5 x0 (cI SX5_readSetting [.ref x0, .int 1, .int 0] fun v11 =>
    rZ v11))
    | 9 => (ob 5 x0 (cI SX5_readSetting [.ref x0, .int 2, .int 1] fun v12 =>
    rZ v12))
    | 10 => (ob 5 x0 (cI SX5_readSetting [.ref x0, .int 3, .int 0] fun v13 =>
    rZ v13))
    | _ => (ob 5 x0 (cI SX5_fail [.ref x0, .int 1] fun v14 =>
    rZ v14))
  | _ => no
def bX5_readStatement (J : JT) : JT := fun L a => match L with
  | 0 => bX5_readStatement_0 J a
  | _ => no
def SX5_readStatement : ST := mk 1 bX5_readStatement
def lX5_readStatement (L : Nat) (a : List Value) : Nat × Nat × Nat × List (Nat × Value) × List Value := match L with
  | 0 => (0, 0, 0, lv_args 0 a, [])
  | _ => (0, 0, 0, [], [])
theorem pX5_readStatement_0 {Γ : CT} (hC : Ctx Γ "SpiritWall$Reader" cX5_readStatement 1 (some .boolean) rmX5_readStatement) (hnt : NT Γ) (J : JT) (hJ : ∀ L a, Cor Γ 1 (lX5_readStatement L a).1 (lX5_readStatement L a).2.1 (lX5_readStatement L a).2.2.1 (lX5_readStatement L a).2.2.2.1 (lX5_readStatement L a).2.2.2.2 (J L a)) (a : List Value) : Cor Γ 1 0 0 0 (lv_args 0 a) [] (bX5_readStatement_0 J a) := by
  unfold bX5_readStatement_0
  split
  · rename_i x0
    refine c_sub [0] rfl (loc' := [(0, .ref x0)]) ?_
    refine q_aload_n hC 0 dX5_readStatement_0 rfl rfl ?_
    refine q_getR hC (by decide) (by decide) rfl w_77 dX5_readStatement_1 (fun r1 => ?_)
    refine q_getI hC (by decide) (by decide) rfl w_240 dX5_readStatement_4 (fun v2 => ?_)
    refine q_sw hC (0) 11 (fun k => ([64, 107, 69, 107, 107, 107, 74, 102, 81, 88, 95] : List Nat).getD k 107) dX5_readStatement_7 rfl rfl (by decide +kernel) rfl ?_
    intro i hi
    match i, hi with
    | 0, _ =>
      refine c_pc (pc' := 64) rfl ?_
      refine q_aload_n hC 0 dX5_readStatement_64 rfl rfl ?_
      refine q_cVI hC hnt (stk := []) (as := []) sX5_readMark (ci := 5) (by decide) rfl nX5_readMark rfl w_295 w_297 w_298 w_144 w_296 (Nat.le_of_ble_eq_true rfl) dX5_readStatement_65 rfl (fun v3 => ?_)
      exact q_zret hC dX5_readStatement_68 (Nat.le_of_ble_eq_true rfl) (Nat.le_of_ble_eq_true rfl)
    | 1, _ =>
      refine c_pc (pc' := 107) rfl ?_
      refine q_aload_n hC 0 dX5_readStatement_107 rfl rfl ?_
      refine q_iconst hC dX5_readStatement_108 rfl ?_
      refine q_cVI hC hnt (stk := []) (as := [.int 1]) sX5_fail (ci := 5) (by decide) rfl nX5_fail rfl w_242 w_244 w_245 w_144 w_243 (Nat.le_of_ble_eq_true rfl) dX5_readStatement_109 rfl (fun v4 => ?_)
      exact q_zret hC dX5_readStatement_112 (Nat.le_of_ble_eq_true rfl) (Nat.le_of_ble_eq_true rfl)
    | 2, _ =>
      refine c_pc (pc' := 69) rfl ?_
      refine q_aload_n hC 0 dX5_readStatement_69 rfl rfl ?_
      refine q_cVI hC hnt (stk := []) (as := []) sX5_readSight (ci := 5) (by decide) rfl nX5_readSight rfl w_299 w_301 w_302 w_144 w_300 (Nat.le_of_ble_eq_true rfl) dX5_readStatement_70 rfl (fun v5 => ?_)
      exact q_zret hC dX5_readStatement_73 (Nat.le_of_ble_eq_true rfl) (Nat.le_of_ble_eq_true rfl)
    | 3, _ =>
      refine c_pc (pc' := 107) rfl ?_
      refine q_aload_n hC 0 dX5_readStatement_107 rfl rfl ?_
      refine q_iconst hC dX5_readStatement_108 rfl ?_
      refine q_cVI hC hnt (stk := []) (as := [.int 1]) sX5_fail (ci := 5) (by decide) rfl nX5_fail rfl w_242 w_244 w_245 w_144 w_243 (Nat.le_of_ble_eq_true rfl) dX5_readStatement_109 rfl (fun v6 => ?_)
      exact q_zret hC dX5_readStatement_112 (Nat.le_of_ble_eq_true rfl) (Nat.le_of_ble_eq_true rfl)
    | 4, _ =>
      refine c_pc (pc' := 107) rfl ?_
      refine q_aload_n hC 0 dX5_readStatement_107 rfl rfl ?_
      refine q_iconst hC dX5_readStatement_108 rfl ?_
      refine q_cVI hC hnt (stk := []) (as := [.int 1]) sX5_fail (ci := 5) (by decide) rfl nX5_fail rfl w_242 w_244 w_245 w_144 w_243 (Nat.le_of_ble_eq_true rfl) dX5_readStatement_109 rfl (fun v7 => ?_)
      exact q_zret hC dX5_readStatement_112 (Nat.le_of_ble_eq_true rfl) (Nat.le_of_ble_eq_true rfl)
    | 5, _ =>
      refine c_pc (pc' := 107) rfl ?_
      refine q_aload_n hC 0 dX5_readStatement_107 rfl rfl ?_
      refine q_iconst hC dX5_readStatement_108 rfl ?_
      refine q_cVI hC hnt (stk := []) (as := [.int 1]) sX5_fail (ci := 5) (by decide) rfl nX5_fail rfl w_242 w_244 w_245 w_144 w_243 (Nat.le_of_ble_eq_true rfl) dX5_readStatement_109 rfl (fun v8 => ?_)
      exact q_zret hC dX5_readStatement_112 (Nat.le_of_ble_eq_true rfl) (Nat.le_of_ble_eq_true rfl)
    | 6, _ =>
      refine c_pc (pc' := 74) rfl ?_
      refine q_aload_n hC 0 dX5_readStatement_74 rfl rfl ?_
      refine q_iconst hC dX5_readStatement_75 rfl ?_
      refine q_iconst hC dX5_readStatement_76 rfl ?_
      refine q_cVI hC hnt (stk := []) (as := [.int 0, .int 0]) sX5_readSetting (ci := 5) (by decide) rfl nX5_readSetting rfl w_303 w_305 w_306 w_144 w_304 (Nat.le_of_ble_eq_true rfl) dX5_readStatement_77 rfl (fun v9 => ?_)
      exact q_zret hC dX5_readStatement_80 (Nat.le_of_ble_eq_true rfl) (Nat.le_of_ble_eq_true rfl)
    | 7, _ =>
      refine c_pc (pc' := 102) rfl ?_
      refine q_aload_n hC 0 dX5_readStatement_102 rfl rfl ?_
      refine q_cVI hC hnt (stk := []) (as := []) sX5_readError (ci := 5) (by decide) rfl nX5_readError rfl w_307 w_309 w_310 w_144 w_308 (Nat.le_of_ble_eq_true rfl) dX5_readStatement_103 rfl (fun v10 => ?_)
      exact q_zret hC dX5_readStatement_106 (Nat.le_of_ble_eq_true rfl) (Nat.le_of_ble_eq_true rfl)
    | 8, _ =>
      refine c_pc (pc' := 81) rfl ?_
      refine q_aload_n hC 0 dX5_readStatement_81 rfl rfl ?_
      refine q_iconst hC dX5_readStatement_82 rfl ?_
      refine q_iconst hC dX5_readStatement_83 rfl ?_
      refine q_cVI hC hnt (stk := []) (as := [.int 1, .int 0]) sX5_readSetting (ci := 5) (by decide) rfl nX5_readSetting rfl w_303 w_305 w_306 w_144 w_304 (Nat.le_of_ble_eq_true rfl) dX5_readStatement_84 rfl (fun v11 => ?_)
      exact q_zret hC dX5_readStatement_87 (Nat.le_of_ble_eq_true rfl) (Nat.le_of_ble_eq_true rfl)
    | 9, _ =>
      refine c_pc (pc' := 88) rfl ?_
      refine q_aload_n hC 0 dX5_readStatement_88 rfl rfl ?_
      refine q_iconst hC dX5_readStatement_89 rfl ?_
      refine q_iconst hC dX5_readStatement_90 rfl ?_
      refine q_cVI hC hnt (stk := []) (as := [.int 2, .int 1]) sX5_readSetting (ci := 5) (by decide) rfl nX5_readSetting rfl w_303 w_305 w_306 w_144 w_304 (Nat.le_of_ble_eq_true rfl) dX5_readStatement_91 rfl (fun v12 => ?_)
      exact q_zret hC dX5_readStatement_94 (Nat.le_of_ble_eq_true rfl) (Nat.le_of_ble_eq_true rfl)
    | 10, _ =>
      refine c_pc (pc' := 95) rfl ?_
      refine q_aload_n hC 0 dX5_readStatement_95 rfl rfl ?_
      refine q_iconst hC dX5_readStatement_96 rfl ?_
      refine q_iconst hC dX5_readStatement_97 rfl ?_
      refine q_cVI hC hnt (stk := []) (as := [.int 3, .int 0]) sX5_readSetting (ci := 5) (by decide) rfl nX5_readSetting rfl w_303 w_305 w_306 w_144 w_304 (Nat.le_of_ble_eq_true rfl) dX5_readStatement_98 rfl (fun v13 => ?_)
      exact q_zret hC dX5_readStatement_101 (Nat.le_of_ble_eq_true rfl) (Nat.le_of_ble_eq_true rfl)
    | 11, _ =>
      refine c_pc (pc' := 107) rfl ?_
      refine q_aload_n hC 0 dX5_readStatement_107 rfl rfl ?_
      refine q_iconst hC dX5_readStatement_108 rfl ?_
      refine q_cVI hC hnt (stk := []) (as := [.int 1]) sX5_fail (ci := 5) (by decide) rfl nX5_fail rfl w_242 w_244 w_245 w_144 w_243 (Nat.le_of_ble_eq_true rfl) dX5_readStatement_109 rfl (fun v14 => ?_)
      exact q_zret hC dX5_readStatement_112 (Nat.le_of_ble_eq_true rfl) (Nat.le_of_ble_eq_true rfl)
    | k + 12, h => exact absurd h (by omega)
  · exact c_no
theorem sX5_readStatement : Snd yX5_readStatement (.code yX5_readStatement cX5_readStatement 1 (some .boolean)) rmX5_readStatement SX5_readStatement := by
  refine Snd.of lX5_readStatement (by decide +kernel) (fun _ => rfl) ?_
  intro Γ hC hnt hnm J hJ L a
  match L with
  | 0 => exact pX5_readStatement_0 hC hnt J hJ a
  | L + 1 => exact c_no
/-! SpiritWall$Reader.readSemicolon()Z -/
theorem dX5_readSemicolon_0 : decode cX5_readSemicolon 0 = .ok (.aload_n 0, 1) := by decide +kernel
theorem dX5_readSemicolon_1 : decode cX5_readSemicolon 1 = .ok (.getfield 44, 3) := by decide +kernel
theorem dX5_readSemicolon_4 : decode cX5_readSemicolon 4 = .ok (.getfield 61, 3) := by decide +kernel
theorem dX5_readSemicolon_7 : decode cX5_readSemicolon 7 = .ok (.bipush 14, 2) := by decide +kernel
theorem dX5_readSemicolon_9 : decode cX5_readSemicolon 9 = .ok (.if_icmp .eq 9, 3) := by decide +kernel
theorem dX5_readSemicolon_12 : decode cX5_readSemicolon 12 = .ok (.aload_n 0, 1) := by decide +kernel
theorem dX5_readSemicolon_13 : decode cX5_readSemicolon 13 = .ok (.iconst 1, 1) := by decide +kernel
theorem dX5_readSemicolon_14 : decode cX5_readSemicolon 14 = .ok (.invokevirtual 74, 3) := by decide +kernel
theorem dX5_readSemicolon_17 : decode cX5_readSemicolon 17 = .ok (.ireturn, 1) := by decide +kernel
theorem dX5_readSemicolon_18 : decode cX5_readSemicolon 18 = .ok (.aload_n 0, 1) := by decide +kernel
theorem dX5_readSemicolon_19 : decode cX5_readSemicolon 19 = .ok (.getfield 44, 3) := by decide +kernel
theorem dX5_readSemicolon_22 : decode cX5_readSemicolon 22 = .ok (.invokevirtual 78, 3) := by decide +kernel
theorem dX5_readSemicolon_25 : decode cX5_readSemicolon 25 = .ok (.iconst 1, 1) := by decide +kernel
theorem dX5_readSemicolon_26 : decode cX5_readSemicolon 26 = .ok (.ireturn, 1) := by decide +kernel
def rmX5_readSemicolon : Room := rmk 9 0 0 213
theorem nX5_readSemicolon : nameOk yX5_readSemicolon 0 = true := by decide +kernel
def bX5_readSemicolon_0 (J : JT) : List Value → Sem
  | [.ref x0] =>
    gR 5 0 x0 fun r1 =>
    gI 8 2 r1 fun v2 =>
    br (v2 = (14 : Int32))
    (gR 5 0 x0 fun r3 =>
    ob 8 r3 (cV SX8_advance [.ref r3] <|
    rZ 1))
    (ob 5 x0 (cI SX5_fail [.ref x0, .int 1] fun v4 =>
    rZ v4))
  | _ => no
def bX5_readSemicolon (J : JT) : JT := fun L a => match L with
  | 0 => bX5_readSemicolon_0 J a
  | _ => no
def SX5_readSemicolon : ST := mk 1 bX5_readSemicolon
def lX5_readSemicolon (L : Nat) (a : List Value) : Nat × Nat × Nat × List (Nat × Value) × List Value := match L with
  | 0 => (0, 0, 0, lv_args 0 a, [])
  | _ => (0, 0, 0, [], [])
theorem pX5_readSemicolon_0 {Γ : CT} (hC : Ctx Γ "SpiritWall$Reader" cX5_readSemicolon 1 (some .boolean) rmX5_readSemicolon) (hnt : NT Γ) (J : JT) (hJ : ∀ L a, Cor Γ 1 (lX5_readSemicolon L a).1 (lX5_readSemicolon L a).2.1 (lX5_readSemicolon L a).2.2.1 (lX5_readSemicolon L a).2.2.2.1 (lX5_readSemicolon L a).2.2.2.2 (J L a)) (a : List Value) : Cor Γ 1 0 0 0 (lv_args 0 a) [] (bX5_readSemicolon_0 J a) := by
  unfold bX5_readSemicolon_0
  split
  · rename_i x0
    refine c_sub [0] rfl (loc' := [(0, .ref x0)]) ?_
    refine q_aload_n hC 0 dX5_readSemicolon_0 rfl rfl ?_
    refine q_getR hC (by decide) (by decide) rfl w_77 dX5_readSemicolon_1 (fun r1 => ?_)
    refine q_getI hC (by decide) (by decide) rfl w_240 dX5_readSemicolon_4 (fun v2 => ?_)
    refine q_bipush hC (v := 14) dX5_readSemicolon_7 rfl ?_
    refine q_ic_eq hC 18 dX5_readSemicolon_9 rfl ?_ ?_
    · refine q_aload_n hC 0 dX5_readSemicolon_18 rfl rfl ?_
      refine q_getR hC (by decide) (by decide) rfl w_77 dX5_readSemicolon_19 (fun r3 => ?_)
      refine q_cVV hC hnt (stk := []) (as := []) sX8_advance (ci := 8) (by decide) rfl nX8_advance rfl w_239 w_230 w_231 w_76 w_229 (Nat.le_of_ble_eq_true rfl) dX5_readSemicolon_22 rfl ?_
      refine q_iconst hC dX5_readSemicolon_25 rfl ?_
      exact q_zret hC dX5_readSemicolon_26 (Nat.le_of_ble_eq_true rfl) (Nat.le_of_ble_eq_true rfl)
    · refine q_aload_n hC 0 dX5_readSemicolon_12 rfl rfl ?_
      refine q_iconst hC dX5_readSemicolon_13 rfl ?_
      refine q_cVI hC hnt (stk := []) (as := [.int 1]) sX5_fail (ci := 5) (by decide) rfl nX5_fail rfl w_242 w_244 w_245 w_144 w_243 (Nat.le_of_ble_eq_true rfl) dX5_readSemicolon_14 rfl (fun v4 => ?_)
      exact q_zret hC dX5_readSemicolon_17 (Nat.le_of_ble_eq_true rfl) (Nat.le_of_ble_eq_true rfl)
  · exact c_no
theorem sX5_readSemicolon : Snd yX5_readSemicolon (.code yX5_readSemicolon cX5_readSemicolon 1 (some .boolean)) rmX5_readSemicolon SX5_readSemicolon := by
  refine Snd.of lX5_readSemicolon (by decide +kernel) (fun _ => rfl) ?_
  intro Γ hC hnt hnm J hJ L a
  match L with
  | 0 => exact pX5_readSemicolon_0 hC hnt J hJ a
  | L + 1 => exact c_no
/-! SpiritWall$Reader.readText()Z -/
theorem dX5_readText_0 : decode cX5_readText 0 = .ok (.aload_n 0, 1) := by decide +kernel
theorem dX5_readText_1 : decode cX5_readText 1 = .ok (.getfield 12, 3) := by decide +kernel
theorem dX5_readText_4 : decode cX5_readText 4 = .ok (.iconst 0, 1) := by decide +kernel
theorem dX5_readText_5 : decode cX5_readText 5 = .ok (.putfield 48, 3) := by decide +kernel
theorem dX5_readText_8 : decode cX5_readText 8 = .ok (.aload_n 0, 1) := by decide +kernel
theorem dX5_readText_9 : decode cX5_readText 9 = .ok (.getfield 21, 3) := by decide +kernel
theorem dX5_readText_12 : decode cX5_readText 12 = .ok (.invokevirtual 51, 3) := by decide +kernel
theorem dX5_readText_15 : decode cX5_readText 15 = .ok (.aload_n 0, 1) := by decide +kernel
theorem dX5_readText_16 : decode cX5_readText 16 = .ok (.getfield 25, 3) := by decide +kernel
theorem dX5_readText_19 : decode cX5_readText 19 = .ok (.iconst 0, 1) := by decide +kernel
theorem dX5_readText_20 : decode cX5_readText 20 = .ok (.invokestatic 54, 3) := by decide +kernel
theorem dX5_readText_23 : decode cX5_readText 23 = .ok (.aload_n 0, 1) := by decide +kernel
theorem dX5_readText_24 : decode cX5_readText 24 = .ok (.iconst 0, 1) := by decide +kernel
theorem dX5_readText_25 : decode cX5_readText 25 = .ok (.putfield 29, 3) := by decide +kernel
theorem dX5_readText_28 : decode cX5_readText 28 = .ok (.aload_n 0, 1) := by decide +kernel
theorem dX5_readText_29 : decode cX5_readText 29 = .ok (.iconst (-1), 1) := by decide +kernel
theorem dX5_readText_30 : decode cX5_readText 30 = .ok (.putfield 33, 3) := by decide +kernel
theorem dX5_readText_33 : decode cX5_readText 33 = .ok (.aload_n 0, 1) := by decide +kernel
theorem dX5_readText_34 : decode cX5_readText 34 = .ok (.getfield 44, 3) := by decide +kernel
theorem dX5_readText_37 : decode cX5_readText 37 = .ok (.invokevirtual 58, 3) := by decide +kernel
theorem dX5_readText_40 : decode cX5_readText 40 = .ok (.iconst 0, 1) := by decide +kernel
theorem dX5_readText_41 : decode cX5_readText 41 = .ok (.istore_n 1, 1) := by decide +kernel
theorem dX5_readText_42 : decode cX5_readText 42 = .ok (.iload_n 1, 1) := by decide +kernel
theorem dX5_readText_43 : decode cX5_readText 43 = .ok (.sipush 900, 3) := by decide +kernel
theorem dX5_readText_46 : decode cX5_readText 46 = .ok (.if_icmp .gt 37, 3) := by decide +kernel
theorem dX5_readText_49 : decode cX5_readText 49 = .ok (.aload_n 0, 1) := by decide +kernel
theorem dX5_readText_50 : decode cX5_readText 50 = .ok (.getfield 44, 3) := by decide +kernel
theorem dX5_readText_53 : decode cX5_readText 53 = .ok (.getfield 61, 3) := by decide +kernel
theorem dX5_readText_56 : decode cX5_readText 56 = .ok (.bipush 15, 2) := by decide +kernel
theorem dX5_readText_58 : decode cX5_readText 58 = .ok (.if_icmp .eq 25, 3) := by decide +kernel
theorem dX5_readText_61 : decode cX5_readText 61 = .ok (.aload_n 0, 1) := by decide +kernel
theorem dX5_readText_62 : decode cX5_readText 62 = .ok (.invokevirtual 64, 3) := by decide +kernel
theorem dX5_readText_65 : decode cX5_readText 65 = .ok (.ifCond .eq 10, 3) := by decide +kernel
theorem dX5_readText_68 : decode cX5_readText 68 = .ok (.aload_n 0, 1) := by decide +kernel
theorem dX5_readText_69 : decode cX5_readText 69 = .ok (.invokevirtual 68, 3) := by decide +kernel
theorem dX5_readText_72 : decode cX5_readText 72 = .ok (.ifCond .ne 5, 3) := by decide +kernel
theorem dX5_readText_75 : decode cX5_readText 75 = .ok (.iconst 0, 1) := by decide +kernel
theorem dX5_readText_76 : decode cX5_readText 76 = .ok (.ireturn, 1) := by decide +kernel
theorem dX5_readText_77 : decode cX5_readText 77 = .ok (.iinc 1 1, 3) := by decide +kernel
theorem dX5_readText_80 : decode cX5_readText 80 = .ok (.goto (-38), 3) := by decide +kernel
theorem dX5_readText_83 : decode cX5_readText 83 = .ok (.iconst 1, 1) := by decide +kernel
theorem dX5_readText_84 : decode cX5_readText 84 = .ok (.ireturn, 1) := by decide +kernel
def rmX5_readText : Room := rmk 12 0 0 282
theorem nX5_readText : nameOk yX5_readText 0 = true := by decide +kernel
def bX5_readText_0 (J : JT) : List Value → Sem
  | [.ref x0] =>
    gR 5 1 x0 fun r1 =>
    pI 9 0 r1 0 <|
    gR 5 2 x0 fun r2 =>
    ob 6 r2 (cV SX6_clear [.ref r2] <|
    gR 5 3 x0 fun r3 =>
    cV SX10_fill [.ref r3, .int 0] <|
    pI 5 4 x0 0 <|
    pI 5 5 x0 (-1) <|
    gR 5 0 x0 fun r4 =>
    ob 8 r4 (cV SX8_restart [.ref r4] <|
    J 1 [.ref x0, .int 0]))
  | _ => no
def bX5_readText_1 (J : JT) : List Value → Sem
  | [.ref x0, .int x1] =>
    br ((900 : Int32) < x1)
    (rZ 1)
    (gR 5 0 x0 fun r1 =>
    gI 8 2 r1 fun v2 =>
    br (v2 = (15 : Int32))
    (rZ 1)
    (ob 5 x0 (cI SX5_readStatement [.ref x0] fun v3 =>
    br (v3 = 0)
    (rZ 0)
    (ob 5 x0 (cI SX5_readSemicolon [.ref x0] fun v4 =>
    br (v4 = 0)
    (rZ 0)
    (J 1 [.ref x0, .int (x1 + 1)]))))))
  | _ => no
def bX5_readText (J : JT) : JT := fun L a => match L with
  | 0 => bX5_readText_0 J a
  | 1 => bX5_readText_1 J a
  | _ => no
def SX5_readText : ST := mk 2 bX5_readText
def lX5_readText (L : Nat) (a : List Value) : Nat × Nat × Nat × List (Nat × Value) × List Value := match L with
  | 0 => (0, 0, 0, lv_args 0 a, [])
  | 1 => (0, 0, 42, List.zip [0, 1] a, [])
  | _ => (0, 0, 0, [], [])
theorem pX5_readText_0 {Γ : CT} (hC : Ctx Γ "SpiritWall$Reader" cX5_readText 2 (some .boolean) rmX5_readText) (hnt : NT Γ) (J : JT) (hJ : ∀ L a, Cor Γ 2 (lX5_readText L a).1 (lX5_readText L a).2.1 (lX5_readText L a).2.2.1 (lX5_readText L a).2.2.2.1 (lX5_readText L a).2.2.2.2 (J L a)) (a : List Value) : Cor Γ 2 0 0 0 (lv_args 0 a) [] (bX5_readText_0 J a) := by
  unfold bX5_readText_0
  split
  · rename_i x0
    refine c_sub [0] rfl (loc' := [(0, .ref x0)]) ?_
    refine q_aload_n hC 0 dX5_readText_0 rfl rfl ?_
    refine q_getR hC (by decide) (by decide) rfl w_66 dX5_readText_1 (fun r1 => ?_)
    refine q_iconst hC dX5_readText_4 rfl ?_
    refine q_putI hC (by decide) (by decide) rfl rfl w_251 dX5_readText_5 ?_
    refine q_aload_n hC 0 dX5_readText_8 rfl rfl ?_
    refine q_getR hC (by decide) (by decide) rfl w_68 dX5_readText_9 (fun r2 => ?_)
    refine q_cVV hC hnt (stk := []) (as := []) sX6_clear (ci := 6) (by decide) rfl nX6_clear rfl w_311 w_313 w_314 w_35 w_312 (Nat.le_of_ble_eq_true rfl) dX5_readText_12 rfl ?_
    refine q_aload_n hC 0 dX5_readText_15 rfl rfl ?_
    refine q_getR hC (by decide) (by decide) rfl w_69 dX5_readText_16 (fun r3 => ?_)
    refine q_iconst hC dX5_readText_19 rfl ?_
    refine q_cNV hC hnt (stk := []) (as := [.ref r3, .int 0]) sX10_fill nX10_fill rfl w_315 w_199 w_27 w_198 (Nat.le_of_ble_eq_true rfl) dX5_readText_20 rfl ?_
    refine q_aload_n hC 0 dX5_readText_23 rfl rfl ?_
    refine q_iconst hC dX5_readText_24 rfl ?_
    refine q_putI hC (by decide) (by decide) rfl rfl w_70 dX5_readText_25 ?_
    refine q_aload_n hC 0 dX5_readText_28 rfl rfl ?_
    refine q_iconst hC dX5_readText_29 rfl ?_
    refine q_putI hC (by decide) (by decide) rfl rfl w_71 dX5_readText_30 ?_
    refine q_aload_n hC 0 dX5_readText_33 rfl rfl ?_
    refine q_getR hC (by decide) (by decide) rfl w_77 dX5_readText_34 (fun r4 => ?_)
    refine q_cVV hC hnt (stk := []) (as := []) sX8_restart (ci := 8) (by decide) rfl nX8_restart rfl w_316 w_318 w_319 w_76 w_317 (Nat.le_of_ble_eq_true rfl) dX5_readText_37 rfl ?_
    refine q_iconst hC dX5_readText_40 rfl ?_
    refine q_istore_nA hC (loc' := [(1, .int 0), (0, .ref x0)]) dX5_readText_41 rfl (Nat.le_of_ble_eq_true rfl) rfl ?_
    exact c_sub [1, 0] rfl (hJ 1 [.ref x0, .int 0])
  · exact c_no
theorem pX5_readText_1 {Γ : CT} (hC : Ctx Γ "SpiritWall$Reader" cX5_readText 2 (some .boolean) rmX5_readText) (hnt : NT Γ) (J : JT) (hJ : ∀ L a, Cor Γ 2 (lX5_readText L a).1 (lX5_readText L a).2.1 (lX5_readText L a).2.2.1 (lX5_readText L a).2.2.2.1 (lX5_readText L a).2.2.2.2 (J L a)) (a : List Value) : Cor Γ 2 0 0 42 (List.zip [0, 1] a) [] (bX5_readText_1 J a) := by
  unfold bX5_readText_1
  split
  · rename_i x0 x1
    refine c_sub [0, 1] rfl (loc' := [(0, .ref x0), (1, .int x1)]) ?_
    refine q_iload_n hC 1 dX5_readText_42 rfl rfl ?_
    refine q_sipush hC (v := 900) dX5_readText_43 rfl ?_
    refine q_ic_gt hC 83 dX5_readText_46 rfl ?_ ?_
    · refine q_iconst hC dX5_readText_83 rfl ?_
      exact q_zret hC dX5_readText_84 (Nat.le_of_ble_eq_true rfl) (Nat.le_of_ble_eq_true rfl)
    · refine q_aload_n hC 0 dX5_readText_49 rfl rfl ?_
      refine q_getR hC (by decide) (by decide) rfl w_77 dX5_readText_50 (fun r1 => ?_)
      refine q_getI hC (by decide) (by decide) rfl w_240 dX5_readText_53 (fun v2 => ?_)
      refine q_bipush hC (v := 15) dX5_readText_56 rfl ?_
      refine q_ic_eq hC 83 dX5_readText_58 rfl ?_ ?_
      · refine q_iconst hC dX5_readText_83 rfl ?_
        exact q_zret hC dX5_readText_84 (Nat.le_of_ble_eq_true rfl) (Nat.le_of_ble_eq_true rfl)
      · refine q_aload_n hC 0 dX5_readText_61 rfl rfl ?_
        refine q_cVI hC hnt (stk := []) (as := []) sX5_readStatement (ci := 5) (by decide) rfl nX5_readStatement rfl w_320 w_322 w_323 w_144 w_321 (Nat.le_of_ble_eq_true rfl) dX5_readText_62 rfl (fun v3 => ?_)
        refine q_if_eq hC 75 dX5_readText_65 rfl ?_ ?_
        · refine q_iconst hC dX5_readText_75 rfl ?_
          exact q_zret hC dX5_readText_76 (Nat.le_of_ble_eq_true rfl) (Nat.le_of_ble_eq_true rfl)
        · refine q_aload_n hC 0 dX5_readText_68 rfl rfl ?_
          refine q_cVI hC hnt (stk := []) (as := []) sX5_readSemicolon (ci := 5) (by decide) rfl nX5_readSemicolon rfl w_324 w_326 w_327 w_144 w_325 (Nat.le_of_ble_eq_true rfl) dX5_readText_69 rfl (fun v4 => ?_)
          refine q_if_ne hC 77 dX5_readText_72 rfl ?_ ?_
          · refine q_iincA hC (loc' := [(1, .int (x1 + 1)), (0, .ref x0)]) 1 1 dX5_readText_77 rfl rfl (Nat.le_of_ble_eq_true rfl) rfl ?_
            refine q_goto hC 42 dX5_readText_80 rfl ?_
            exact c_sub [1, 0] rfl (hJ 1 [.ref x0, .int (x1 + 1)])
          · refine q_iconst hC dX5_readText_75 rfl ?_
            exact q_zret hC dX5_readText_76 (Nat.le_of_ble_eq_true rfl) (Nat.le_of_ble_eq_true rfl)
  · exact c_no
theorem sX5_readText : Snd yX5_readText (.code yX5_readText cX5_readText 2 (some .boolean)) rmX5_readText SX5_readText := by
  refine Snd.of lX5_readText (by decide +kernel) (fun _ => rfl) ?_
  intro Γ hC hnt hnm J hJ L a
  match L with
  | 0 => exact pX5_readText_0 hC hnt J hJ a
  | 1 => exact pX5_readText_1 hC hnt J hJ a
  | L + 2 => exact c_no
/-! SpiritWall$Wall.copyFrom(LSpiritWall$Wall;)V -/
theorem dX9_copyFrom_0 : decode cX9_copyFrom 0 = .ok (.aload_n 0, 1) := by decide +kernel
theorem dX9_copyFrom_1 : decode cX9_copyFrom 1 = .ok (.aload_n 1, 1) := by decide +kernel
theorem dX9_copyFrom_2 : decode cX9_copyFrom 2 = .ok (.getfield 9, 3) := by decide +kernel
theorem dX9_copyFrom_5 : decode cX9_copyFrom 5 = .ok (.putfield 9, 3) := by decide +kernel
theorem dX9_copyFrom_8 : decode cX9_copyFrom 8 = .ok (.aload_n 0, 1) := by decide +kernel
theorem dX9_copyFrom_9 : decode cX9_copyFrom 9 = .ok (.getfield 15, 3) := by decide +kernel
theorem dX9_copyFrom_12 : decode cX9_copyFrom 12 = .ok (.aload_n 1, 1) := by decide +kernel
theorem dX9_copyFrom_13 : decode cX9_copyFrom 13 = .ok (.getfield 15, 3) := by decide +kernel
theorem dX9_copyFrom_16 : decode cX9_copyFrom 16 = .ok (.invokestatic 22, 3) := by decide +kernel
theorem dX9_copyFrom_19 : decode cX9_copyFrom 19 = .ok (.aload_n 0, 1) := by decide +kernel
theorem dX9_copyFrom_20 : decode cX9_copyFrom 20 = .ok (.getfield 19, 3) := by decide +kernel
theorem dX9_copyFrom_23 : decode cX9_copyFrom 23 = .ok (.aload_n 1, 1) := by decide +kernel
theorem dX9_copyFrom_24 : decode cX9_copyFrom 24 = .ok (.getfield 19, 3) := by decide +kernel
theorem dX9_copyFrom_27 : decode cX9_copyFrom 27 = .ok (.invokestatic 22, 3) := by decide +kernel
theorem dX9_copyFrom_30 : decode cX9_copyFrom 30 = .ok (.return_, 1) := by decide +kernel
def rmX9_copyFrom : Room := rmk 7 0 0 172
theorem nX9_copyFrom : nameOk yX9_copyFrom 1 = true := by decide +kernel
def bX9_copyFrom_0 (J : JT) : List Value → Sem
  | [.ref x0, .ref x1] =>
    gI 9 0 x1 fun v1 =>
    pI 9 0 x0 v1 <|
    gR 9 1 x0 fun r2 =>
    gR 9 1 x1 fun r3 =>
    cV SX10_copyRow [.ref r2, .ref r3] <|
    gR 9 2 x0 fun r4 =>
    gR 9 2 x1 fun r5 =>
    cV SX10_copyRow [.ref r4, .ref r5] <|
    rV
  | _ => no
def bX9_copyFrom (J : JT) : JT := fun L a => match L with
  | 0 => bX9_copyFrom_0 J a
  | _ => no
def SX9_copyFrom : ST := mk 2 bX9_copyFrom
def lX9_copyFrom (L : Nat) (a : List Value) : Nat × Nat × Nat × List (Nat × Value) × List Value := match L with
  | 0 => (0, 0, 0, lv_args 0 a, [])
  | _ => (0, 0, 0, [], [])
theorem pX9_copyFrom_0 {Γ : CT} (hC : Ctx Γ "SpiritWall$Wall" cX9_copyFrom 2 none rmX9_copyFrom) (hnt : NT Γ) (J : JT) (hJ : ∀ L a, Cor Γ 2 (lX9_copyFrom L a).1 (lX9_copyFrom L a).2.1 (lX9_copyFrom L a).2.2.1 (lX9_copyFrom L a).2.2.2.1 (lX9_copyFrom L a).2.2.2.2 (J L a)) (a : List Value) : Cor Γ 2 0 0 0 (lv_args 0 a) [] (bX9_copyFrom_0 J a) := by
  unfold bX9_copyFrom_0
  split
  · rename_i x0 x1
    refine c_sub [0, 1] rfl (loc' := [(0, .ref x0), (1, .ref x1)]) ?_
    refine q_aload_n hC 0 dX9_copyFrom_0 rfl rfl ?_
    refine q_aload_n hC 1 dX9_copyFrom_1 rfl rfl ?_
    refine q_getI hC (by decide) (by decide) rfl w_6 dX9_copyFrom_2 (fun v1 => ?_)
    refine q_putI hC (by decide) (by decide) rfl rfl w_6 dX9_copyFrom_5 ?_
    refine q_aload_n hC 0 dX9_copyFrom_8 rfl rfl ?_
    refine q_getR hC (by decide) (by decide) rfl w_7 dX9_copyFrom_9 (fun r2 => ?_)
    refine q_aload_n hC 1 dX9_copyFrom_12 rfl rfl ?_
    refine q_getR hC (by decide) (by decide) rfl w_7 dX9_copyFrom_13 (fun r3 => ?_)
    refine q_cNV hC hnt (stk := []) (as := [.ref r2, .ref r3]) sX10_copyRow nX10_copyRow rfl w_328 w_26 w_27 w_25 (Nat.le_of_ble_eq_true rfl) dX9_copyFrom_16 rfl ?_
    refine q_aload_n hC 0 dX9_copyFrom_19 rfl rfl ?_
    refine q_getR hC (by decide) (by decide) rfl w_8 dX9_copyFrom_20 (fun r4 => ?_)
    refine q_aload_n hC 1 dX9_copyFrom_23 rfl rfl ?_
    refine q_getR hC (by decide) (by decide) rfl w_8 dX9_copyFrom_24 (fun r5 => ?_)
    refine q_cNV hC hnt (stk := []) (as := [.ref r4, .ref r5]) sX10_copyRow nX10_copyRow rfl w_328 w_26 w_27 w_25 (Nat.le_of_ble_eq_true rfl) dX9_copyFrom_27 rfl ?_
    exact q_vret hC dX9_copyFrom_30 (Nat.le_of_ble_eq_true rfl) (Nat.le_of_ble_eq_true rfl)
  · exact c_no
theorem sX9_copyFrom : Snd yX9_copyFrom (.code yX9_copyFrom cX9_copyFrom 2 none) rmX9_copyFrom SX9_copyFrom := by
  refine Snd.of lX9_copyFrom (by decide +kernel) (fun _ => rfl) ?_
  intro Γ hC hnt hnm J hJ L a
  match L with
  | 0 => exact pX9_copyFrom_0 hC hnt J hJ a
  | L + 1 => exact c_no
/-! SpiritWall$State.copyFrom(LSpiritWall$State;)V -/
theorem dX6_copyFrom_0 : decode cX6_copyFrom 0 = .ok (.aload_n 0, 1) := by decide +kernel
theorem dX6_copyFrom_1 : decode cX6_copyFrom 1 = .ok (.getfield 9, 3) := by decide +kernel
theorem dX6_copyFrom_4 : decode cX6_copyFrom 4 = .ok (.aload_n 1, 1) := by decide +kernel
theorem dX6_copyFrom_5 : decode cX6_copyFrom 5 = .ok (.getfield 9, 3) := by decide +kernel
theorem dX6_copyFrom_8 : decode cX6_copyFrom 8 = .ok (.invokestatic 56, 3) := by decide +kernel
theorem dX6_copyFrom_11 : decode cX6_copyFrom 11 = .ok (.aload_n 0, 1) := by decide +kernel
theorem dX6_copyFrom_12 : decode cX6_copyFrom 12 = .ok (.aload_n 1, 1) := by decide +kernel
theorem dX6_copyFrom_13 : decode cX6_copyFrom 13 = .ok (.getfield 15, 3) := by decide +kernel
theorem dX6_copyFrom_16 : decode cX6_copyFrom 16 = .ok (.putfield 15, 3) := by decide +kernel
theorem dX6_copyFrom_19 : decode cX6_copyFrom 19 = .ok (.aload_n 0, 1) := by decide +kernel
theorem dX6_copyFrom_20 : decode cX6_copyFrom 20 = .ok (.aload_n 1, 1) := by decide +kernel
theorem dX6_copyFrom_21 : decode cX6_copyFrom 21 = .ok (.getfield 19, 3) := by decide +kernel
theorem dX6_copyFrom_24 : decode cX6_copyFrom 24 = .ok (.putfield 19, 3) := by decide +kernel
theorem dX6_copyFrom_27 : decode cX6_copyFrom 27 = .ok (.aload_n 0, 1) := by decide +kernel
theorem dX6_copyFrom_28 : decode cX6_copyFrom 28 = .ok (.getfield 23, 3) := by decide +kernel
theorem dX6_copyFrom_31 : decode cX6_copyFrom 31 = .ok (.aload_n 1, 1) := by decide +kernel
theorem dX6_copyFrom_32 : decode cX6_copyFrom 32 = .ok (.getfield 23, 3) := by decide +kernel
theorem dX6_copyFrom_35 : decode cX6_copyFrom 35 = .ok (.invokestatic 56, 3) := by decide +kernel
theorem dX6_copyFrom_38 : decode cX6_copyFrom 38 = .ok (.aload_n 0, 1) := by decide +kernel
theorem dX6_copyFrom_39 : decode cX6_copyFrom 39 = .ok (.getfield 26, 3) := by decide +kernel
theorem dX6_copyFrom_42 : decode cX6_copyFrom 42 = .ok (.aload_n 1, 1) := by decide +kernel
theorem dX6_copyFrom_43 : decode cX6_copyFrom 43 = .ok (.getfield 26, 3) := by decide +kernel
theorem dX6_copyFrom_46 : decode cX6_copyFrom 46 = .ok (.invokestatic 56, 3) := by decide +kernel
theorem dX6_copyFrom_49 : decode cX6_copyFrom 49 = .ok (.aload_n 0, 1) := by decide +kernel
theorem dX6_copyFrom_50 : decode cX6_copyFrom 50 = .ok (.getfield 29, 3) := by decide +kernel
theorem dX6_copyFrom_53 : decode cX6_copyFrom 53 = .ok (.aload_n 1, 1) := by decide +kernel
theorem dX6_copyFrom_54 : decode cX6_copyFrom 54 = .ok (.getfield 29, 3) := by decide +kernel
theorem dX6_copyFrom_57 : decode cX6_copyFrom 57 = .ok (.invokestatic 56, 3) := by decide +kernel
theorem dX6_copyFrom_60 : decode cX6_copyFrom 60 = .ok (.aload_n 0, 1) := by decide +kernel
theorem dX6_copyFrom_61 : decode cX6_copyFrom 61 = .ok (.aload_n 1, 1) := by decide +kernel
theorem dX6_copyFrom_62 : decode cX6_copyFrom 62 = .ok (.getfield 32, 3) := by decide +kernel
theorem dX6_copyFrom_65 : decode cX6_copyFrom 65 = .ok (.putfield 32, 3) := by decide +kernel
theorem dX6_copyFrom_68 : decode cX6_copyFrom 68 = .ok (.aload_n 0, 1) := by decide +kernel
theorem dX6_copyFrom_69 : decode cX6_copyFrom 69 = .ok (.getfield 35, 3) := by decide +kernel
theorem dX6_copyFrom_72 : decode cX6_copyFrom 72 = .ok (.aload_n 1, 1) := by decide +kernel
theorem dX6_copyFrom_73 : decode cX6_copyFrom 73 = .ok (.getfield 35, 3) := by decide +kernel
theorem dX6_copyFrom_76 : decode cX6_copyFrom 76 = .ok (.invokestatic 56, 3) := by decide +kernel
theorem dX6_copyFrom_79 : decode cX6_copyFrom 79 = .ok (.aload_n 0, 1) := by decide +kernel
theorem dX6_copyFrom_80 : decode cX6_copyFrom 80 = .ok (.getfield 38, 3) := by decide +kernel
theorem dX6_copyFrom_83 : decode cX6_copyFrom 83 = .ok (.aload_n 1, 1) := by decide +kernel
theorem dX6_copyFrom_84 : decode cX6_copyFrom 84 = .ok (.getfield 38, 3) := by decide +kernel
theorem dX6_copyFrom_87 : decode cX6_copyFrom 87 = .ok (.invokestatic 56, 3) := by decide +kernel
theorem dX6_copyFrom_90 : decode cX6_copyFrom 90 = .ok (.aload_n 0, 1) := by decide +kernel
theorem dX6_copyFrom_91 : decode cX6_copyFrom 91 = .ok (.getfield 41, 3) := by decide +kernel
theorem dX6_copyFrom_94 : decode cX6_copyFrom 94 = .ok (.aload_n 1, 1) := by decide +kernel
theorem dX6_copyFrom_95 : decode cX6_copyFrom 95 = .ok (.getfield 41, 3) := by decide +kernel
theorem dX6_copyFrom_98 : decode cX6_copyFrom 98 = .ok (.invokestatic 56, 3) := by decide +kernel
theorem dX6_copyFrom_101 : decode cX6_copyFrom 101 = .ok (.aload_n 0, 1) := by decide +kernel
theorem dX6_copyFrom_102 : decode cX6_copyFrom 102 = .ok (.getfield 44, 3) := by decide +kernel
theorem dX6_copyFrom_105 : decode cX6_copyFrom 105 = .ok (.aload_n 1, 1) := by decide +kernel
theorem dX6_copyFrom_106 : decode cX6_copyFrom 106 = .ok (.getfield 44, 3) := by decide +kernel
theorem dX6_copyFrom_109 : decode cX6_copyFrom 109 = .ok (.invokestatic 56, 3) := by decide +kernel
theorem dX6_copyFrom_112 : decode cX6_copyFrom 112 = .ok (.aload_n 0, 1) := by decide +kernel
theorem dX6_copyFrom_113 : decode cX6_copyFrom 113 = .ok (.getfield 47, 3) := by decide +kernel
theorem dX6_copyFrom_116 : decode cX6_copyFrom 116 = .ok (.aload_n 1, 1) := by decide +kernel
theorem dX6_copyFrom_117 : decode cX6_copyFrom 117 = .ok (.getfield 47, 3) := by decide +kernel
theorem dX6_copyFrom_120 : decode cX6_copyFrom 120 = .ok (.invokestatic 56, 3) := by decide +kernel
theorem dX6_copyFrom_123 : decode cX6_copyFrom 123 = .ok (.aload_n 0, 1) := by decide +kernel
theorem dX6_copyFrom_124 : decode cX6_copyFrom 124 = .ok (.getfield 50, 3) := by decide +kernel
theorem dX6_copyFrom_127 : decode cX6_copyFrom 127 = .ok (.aload_n 1, 1) := by decide +kernel
theorem dX6_copyFrom_128 : decode cX6_copyFrom 128 = .ok (.getfield 50, 3) := by decide +kernel
theorem dX6_copyFrom_131 : decode cX6_copyFrom 131 = .ok (.invokestatic 56, 3) := by decide +kernel
theorem dX6_copyFrom_134 : decode cX6_copyFrom 134 = .ok (.return_, 1) := by decide +kernel
def rmX6_copyFrom : Room := rmk 7 0 0 172
theorem nX6_copyFrom : nameOk yX6_copyFrom 1 = true := by decide +kernel
def bX6_copyFrom_0 (J : JT) : List Value → Sem
  | [.ref x0, .ref x1] =>
    gR 6 0 x0 fun r1 =>
    gR 6 0 x1 fun r2 =>
    cV SX10_copyRow [.ref r1, .ref r2] <|
    gI 6 1 x1 fun v3 =>
    pZ 6 1 x0 v3 <|
    gI 6 2 x1 fun v4 =>
    pI 6 2 x0 v4 <|
    gR 6 3 x0 fun r5 =>
    gR 6 3 x1 fun r6 =>
    cV SX10_copyRow [.ref r5, .ref r6] <|
    gR 6 4 x0 fun r7 =>
    gR 6 4 x1 fun r8 =>
    cV SX10_copyRow [.ref r7, .ref r8] <|
    gR 6 5 x0 fun r9 =>
    gR 6 5 x1 fun r10 =>
    cV SX10_copyRow [.ref r9, .ref r10] <|
    gI 6 6 x1 fun v11 =>
    pI 6 6 x0 v11 <|
    gR 6 7 x0 fun r12 =>
    gR 6 7 x1 fun r13 =>
    cV SX10_copyRow [.ref r12, .ref r13] <|
    gR 6 8 x0 fun r14 =>
    gR 6 8 x1 fun r15 =>
    cV SX10_copyRow [.ref r14, .ref r15] <|
    gR 6 9 x0 fun r16 =>
    gR 6 9 x1 fun r17 =>
    cV SX10_copyRow [.ref r16, .ref r17] <|
    gR 6 10 x0 fun r18 =>
    gR 6 10 x1 fun r19 =>
    cV SX10_copyRow [.ref r18, .ref r19] <|
    gR 6 11 x0 fun r20 =>
    gR 6 11 x1 fun r21 =>
    cV SX10_copyRow [.ref r20, .ref r21] <|
    gR 6 12 x0 fun r22 =>
    gR 6 12 x1 fun r23 =>
    cV SX10_copyRow [.ref r22, .ref r23] <|
    rV
  | _ => no
def bX6_copyFrom (J : JT) : JT := fun L a => match L with
  | 0 => bX6_copyFrom_0 J a
  | _ => no
def SX6_copyFrom : ST := mk 2 bX6_copyFrom
def lX6_copyFrom (L : Nat) (a : List Value) : Nat × Nat × Nat × List (Nat × Value) × List Value := match L with
  | 0 => (0, 0, 0, lv_args 0 a, [])
  | _ => (0, 0, 0, [], [])
theorem pX6_copyFrom_0 {Γ : CT} (hC : Ctx Γ "SpiritWall$State" cX6_copyFrom 2 none rmX6_copyFrom) (hnt : NT Γ) (J : JT) (hJ : ∀ L a, Cor Γ 2 (lX6_copyFrom L a).1 (lX6_copyFrom L a).2.1 (lX6_copyFrom L a).2.2.1 (lX6_copyFrom L a).2.2.2.1 (lX6_copyFrom L a).2.2.2.2 (J L a)) (a : List Value) : Cor Γ 2 0 0 0 (lv_args 0 a) [] (bX6_copyFrom_0 J a) := by
  unfold bX6_copyFrom_0
  split
  · rename_i x0 x1
    refine c_sub [0, 1] rfl (loc' := [(0, .ref x0), (1, .ref x1)]) ?_
    refine q_aload_n hC 0 dX6_copyFrom_0 rfl rfl ?_
    refine q_getR hC (by decide) (by decide) rfl w_10 dX6_copyFrom_1 (fun r1 => ?_)
    refine q_aload_n hC 1 dX6_copyFrom_4 rfl rfl ?_
    refine q_getR hC (by decide) (by decide) rfl w_10 dX6_copyFrom_5 (fun r2 => ?_)
    refine q_cNV hC hnt (stk := []) (as := [.ref r1, .ref r2]) sX10_copyRow nX10_copyRow rfl w_24 w_26 w_27 w_25 (Nat.le_of_ble_eq_true rfl) dX6_copyFrom_8 rfl ?_
    refine q_aload_n hC 0 dX6_copyFrom_11 rfl rfl ?_
    refine q_aload_n hC 1 dX6_copyFrom_12 rfl rfl ?_
    refine q_getI hC (by decide) (by decide) rfl w_11 dX6_copyFrom_13 (fun v3 => ?_)
    refine q_putZ hC (by decide) (by decide) rfl rfl w_11 dX6_copyFrom_16 ?_
    refine q_aload_n hC 0 dX6_copyFrom_19 rfl rfl ?_
    refine q_aload_n hC 1 dX6_copyFrom_20 rfl rfl ?_
    refine q_getI hC (by decide) (by decide) rfl w_12 dX6_copyFrom_21 (fun v4 => ?_)
    refine q_putI hC (by decide) (by decide) rfl rfl w_12 dX6_copyFrom_24 ?_
    refine q_aload_n hC 0 dX6_copyFrom_27 rfl rfl ?_
    refine q_getR hC (by decide) (by decide) rfl w_13 dX6_copyFrom_28 (fun r5 => ?_)
    refine q_aload_n hC 1 dX6_copyFrom_31 rfl rfl ?_
    refine q_getR hC (by decide) (by decide) rfl w_13 dX6_copyFrom_32 (fun r6 => ?_)
    refine q_cNV hC hnt (stk := []) (as := [.ref r5, .ref r6]) sX10_copyRow nX10_copyRow rfl w_24 w_26 w_27 w_25 (Nat.le_of_ble_eq_true rfl) dX6_copyFrom_35 rfl ?_
    refine q_aload_n hC 0 dX6_copyFrom_38 rfl rfl ?_
    refine q_getR hC (by decide) (by decide) rfl w_14 dX6_copyFrom_39 (fun r7 => ?_)
    refine q_aload_n hC 1 dX6_copyFrom_42 rfl rfl ?_
    refine q_getR hC (by decide) (by decide) rfl w_14 dX6_copyFrom_43 (fun r8 => ?_)
    refine q_cNV hC hnt (stk := []) (as := [.ref r7, .ref r8]) sX10_copyRow nX10_copyRow rfl w_24 w_26 w_27 w_25 (Nat.le_of_ble_eq_true rfl) dX6_copyFrom_46 rfl ?_
    refine q_aload_n hC 0 dX6_copyFrom_49 rfl rfl ?_
    refine q_getR hC (by decide) (by decide) rfl w_15 dX6_copyFrom_50 (fun r9 => ?_)
    refine q_aload_n hC 1 dX6_copyFrom_53 rfl rfl ?_
    refine q_getR hC (by decide) (by decide) rfl w_15 dX6_copyFrom_54 (fun r10 => ?_)
    refine q_cNV hC hnt (stk := []) (as := [.ref r9, .ref r10]) sX10_copyRow nX10_copyRow rfl w_24 w_26 w_27 w_25 (Nat.le_of_ble_eq_true rfl) dX6_copyFrom_57 rfl ?_
    refine q_aload_n hC 0 dX6_copyFrom_60 rfl rfl ?_
    refine q_aload_n hC 1 dX6_copyFrom_61 rfl rfl ?_
    refine q_getI hC (by decide) (by decide) rfl w_16 dX6_copyFrom_62 (fun v11 => ?_)
    refine q_putI hC (by decide) (by decide) rfl rfl w_16 dX6_copyFrom_65 ?_
    refine q_aload_n hC 0 dX6_copyFrom_68 rfl rfl ?_
    refine q_getR hC (by decide) (by decide) rfl w_17 dX6_copyFrom_69 (fun r12 => ?_)
    refine q_aload_n hC 1 dX6_copyFrom_72 rfl rfl ?_
    refine q_getR hC (by decide) (by decide) rfl w_17 dX6_copyFrom_73 (fun r13 => ?_)
    refine q_cNV hC hnt (stk := []) (as := [.ref r12, .ref r13]) sX10_copyRow nX10_copyRow rfl w_24 w_26 w_27 w_25 (Nat.le_of_ble_eq_true rfl) dX6_copyFrom_76 rfl ?_
    refine q_aload_n hC 0 dX6_copyFrom_79 rfl rfl ?_
    refine q_getR hC (by decide) (by decide) rfl w_18 dX6_copyFrom_80 (fun r14 => ?_)
    refine q_aload_n hC 1 dX6_copyFrom_83 rfl rfl ?_
    refine q_getR hC (by decide) (by decide) rfl w_18 dX6_copyFrom_84 (fun r15 => ?_)
    refine q_cNV hC hnt (stk := []) (as := [.ref r14, .ref r15]) sX10_copyRow nX10_copyRow rfl w_24 w_26 w_27 w_25 (Nat.le_of_ble_eq_true rfl) dX6_copyFrom_87 rfl ?_
    refine q_aload_n hC 0 dX6_copyFrom_90 rfl rfl ?_
    refine q_getR hC (by decide) (by decide) rfl w_19 dX6_copyFrom_91 (fun r16 => ?_)
    refine q_aload_n hC 1 dX6_copyFrom_94 rfl rfl ?_
    refine q_getR hC (by decide) (by decide) rfl w_19 dX6_copyFrom_95 (fun r17 => ?_)
    refine q_cNV hC hnt (stk := []) (as := [.ref r16, .ref r17]) sX10_copyRow nX10_copyRow rfl w_24 w_26 w_27 w_25 (Nat.le_of_ble_eq_true rfl) dX6_copyFrom_98 rfl ?_
    refine q_aload_n hC 0 dX6_copyFrom_101 rfl rfl ?_
    refine q_getR hC (by decide) (by decide) rfl w_20 dX6_copyFrom_102 (fun r18 => ?_)
    refine q_aload_n hC 1 dX6_copyFrom_105 rfl rfl ?_
    refine q_getR hC (by decide) (by decide) rfl w_20 dX6_copyFrom_106 (fun r19 => ?_)
    refine q_cNV hC hnt (stk := []) (as := [.ref r18, .ref r19]) sX10_copyRow nX10_copyRow rfl w_24 w_26 w_27 w_25 (Nat.le_of_ble_eq_true rfl) dX6_copyFrom_109 rfl ?_
    refine q_aload_n hC 0 dX6_copyFrom_112 rfl rfl ?_
    refine q_getR hC (by decide) (by decide) rfl w_21 dX6_copyFrom_113 (fun r20 => ?_)
    refine q_aload_n hC 1 dX6_copyFrom_116 rfl rfl ?_
    refine q_getR hC (by decide) (by decide) rfl w_21 dX6_copyFrom_117 (fun r21 => ?_)
    refine q_cNV hC hnt (stk := []) (as := [.ref r20, .ref r21]) sX10_copyRow nX10_copyRow rfl w_24 w_26 w_27 w_25 (Nat.le_of_ble_eq_true rfl) dX6_copyFrom_120 rfl ?_
    refine q_aload_n hC 0 dX6_copyFrom_123 rfl rfl ?_
    refine q_getR hC (by decide) (by decide) rfl w_22 dX6_copyFrom_124 (fun r22 => ?_)
    refine q_aload_n hC 1 dX6_copyFrom_127 rfl rfl ?_
    refine q_getR hC (by decide) (by decide) rfl w_22 dX6_copyFrom_128 (fun r23 => ?_)
    refine q_cNV hC hnt (stk := []) (as := [.ref r22, .ref r23]) sX10_copyRow nX10_copyRow rfl w_24 w_26 w_27 w_25 (Nat.le_of_ble_eq_true rfl) dX6_copyFrom_131 rfl ?_
    exact q_vret hC dX6_copyFrom_134 (Nat.le_of_ble_eq_true rfl) (Nat.le_of_ble_eq_true rfl)
  · exact c_no
theorem sX6_copyFrom : Snd yX6_copyFrom (.code yX6_copyFrom cX6_copyFrom 2 none) rmX6_copyFrom SX6_copyFrom := by
  refine Snd.of lX6_copyFrom (by decide +kernel) (fun _ => rfl) ?_
  intro Γ hC hnt hnm J hJ L a
  match L with
  | 0 => exact pX6_copyFrom_0 hC hnt J hJ a
  | L + 1 => exact c_no
/-! SpiritWall.parse()I -/
theorem dX10_parse_0 : decode cX10_parse 0 = .ok (.aload_n 0, 1) := by decide +kernel
theorem dX10_parse_1 : decode cX10_parse 1 = .ok (.getfield 53, 3) := by decide +kernel
theorem dX10_parse_4 : decode cX10_parse 4 = .ok (.invokevirtual 108, 3) := by decide +kernel
theorem dX10_parse_7 : decode cX10_parse 7 = .ok (.istore_n 1, 1) := by decide +kernel
theorem dX10_parse_8 : decode cX10_parse 8 = .ok (.aload_n 0, 1) := by decide +kernel
theorem dX10_parse_9 : decode cX10_parse 9 = .ok (.aload_n 0, 1) := by decide +kernel
theorem dX10_parse_10 : decode cX10_parse 10 = .ok (.getfield 53, 3) := by decide +kernel
theorem dX10_parse_13 : decode cX10_parse 13 = .ok (.getfield 112, 3) := by decide +kernel
theorem dX10_parse_16 : decode cX10_parse 16 = .ok (.putfield 95, 3) := by decide +kernel
theorem dX10_parse_19 : decode cX10_parse 19 = .ok (.aload_n 0, 1) := by decide +kernel
theorem dX10_parse_20 : decode cX10_parse 20 = .ok (.aload_n 0, 1) := by decide +kernel
theorem dX10_parse_21 : decode cX10_parse 21 = .ok (.getfield 53, 3) := by decide +kernel
theorem dX10_parse_24 : decode cX10_parse 24 = .ok (.getfield 115, 3) := by decide +kernel
theorem dX10_parse_27 : decode cX10_parse 27 = .ok (.putfield 99, 3) := by decide +kernel
theorem dX10_parse_30 : decode cX10_parse 30 = .ok (.aload_n 0, 1) := by decide +kernel
theorem dX10_parse_31 : decode cX10_parse 31 = .ok (.getfield 14, 3) := by decide +kernel
theorem dX10_parse_34 : decode cX10_parse 34 = .ok (.iconst 0, 1) := by decide +kernel
theorem dX10_parse_35 : decode cX10_parse 35 = .ok (.putfield 102, 3) := by decide +kernel
theorem dX10_parse_38 : decode cX10_parse 38 = .ok (.iload_n 1, 1) := by decide +kernel
theorem dX10_parse_39 : decode cX10_parse 39 = .ok (.ifCond .ne 5, 3) := by decide +kernel
theorem dX10_parse_42 : decode cX10_parse 42 = .ok (.iconst (-1), 1) := by decide +kernel
theorem dX10_parse_43 : decode cX10_parse 43 = .ok (.ireturn, 1) := by decide +kernel
theorem dX10_parse_44 : decode cX10_parse 44 = .ok (.aload_n 0, 1) := by decide +kernel
theorem dX10_parse_45 : decode cX10_parse 45 = .ok (.getfield 24, 3) := by decide +kernel
theorem dX10_parse_48 : decode cX10_parse 48 = .ok (.aload_n 0, 1) := by decide +kernel
theorem dX10_parse_49 : decode cX10_parse 49 = .ok (.getfield 53, 3) := by decide +kernel
theorem dX10_parse_52 : decode cX10_parse 52 = .ok (.getfield 118, 3) := by decide +kernel
theorem dX10_parse_55 : decode cX10_parse 55 = .ok (.invokevirtual 119, 3) := by decide +kernel
theorem dX10_parse_58 : decode cX10_parse 58 = .ok (.aload_n 0, 1) := by decide +kernel
theorem dX10_parse_59 : decode cX10_parse 59 = .ok (.getfield 31, 3) := by decide +kernel
theorem dX10_parse_62 : decode cX10_parse 62 = .ok (.aload_n 0, 1) := by decide +kernel
theorem dX10_parse_63 : decode cX10_parse 63 = .ok (.getfield 53, 3) := by decide +kernel
theorem dX10_parse_66 : decode cX10_parse 66 = .ok (.getfield 123, 3) := by decide +kernel
theorem dX10_parse_69 : decode cX10_parse 69 = .ok (.invokevirtual 126, 3) := by decide +kernel
theorem dX10_parse_72 : decode cX10_parse 72 = .ok (.aload_n 0, 1) := by decide +kernel
theorem dX10_parse_73 : decode cX10_parse 73 = .ok (.getfield 44, 3) := by decide +kernel
theorem dX10_parse_76 : decode cX10_parse 76 = .ok (.iconst 0, 1) := by decide +kernel
theorem dX10_parse_77 : decode cX10_parse 77 = .ok (.putfield 129, 3) := by decide +kernel
theorem dX10_parse_80 : decode cX10_parse 80 = .ok (.aload_n 0, 1) := by decide +kernel
theorem dX10_parse_81 : decode cX10_parse 81 = .ok (.iconst 0, 1) := by decide +kernel
theorem dX10_parse_82 : decode cX10_parse 82 = .ok (.putfield 91, 3) := by decide +kernel
theorem dX10_parse_85 : decode cX10_parse 85 = .ok (.aload_n 0, 1) := by decide +kernel
theorem dX10_parse_86 : decode cX10_parse 86 = .ok (.getfield 24, 3) := by decide +kernel
theorem dX10_parse_89 : decode cX10_parse 89 = .ok (.getfield 132, 3) := by decide +kernel
theorem dX10_parse_92 : decode cX10_parse 92 = .ok (.ireturn, 1) := by decide +kernel
def rmX10_parse : Room := rmk 13 0 0 303
theorem nX10_parse : nameOk yX10_parse 0 = true := by decide +kernel
def bX10_parse_0 (J : JT) : List Value → Sem
  | [.ref x0] =>
    gR 10 7 x0 fun r1 =>
    ob 5 r1 (cI SX5_readText [.ref r1] fun v2 =>
    gR 10 7 x0 fun r3 =>
    gI 5 4 r3 fun v4 =>
    pI 10 13 x0 v4 <|
    gR 10 7 x0 fun r5 =>
    gI 5 5 r5 fun v6 =>
    pI 10 14 x0 v6 <|
    gR 10 0 x0 fun r7 =>
    pI 7 1 r7 0 <|
    br (v2 = 0)
    (rI (-1))
    (gR 10 2 x0 fun r8 =>
    gR 10 7 x0 fun r9 =>
    gR 5 1 r9 fun r10 =>
    ob 9 r8 (cV SX9_copyFrom [.ref r8, .ref r10] <|
    gR 10 3 x0 fun r11 =>
    gR 10 7 x0 fun r12 =>
    gR 5 2 r12 fun r13 =>
    ob 6 r11 (cV SX6_copyFrom [.ref r11, .ref r13] <|
    gR 10 6 x0 fun r14 =>
    pI 3 1 r14 0 <|
    pZ 10 12 x0 0 <|
    gR 10 2 x0 fun r15 =>
    gI 9 0 r15 fun v16 =>
    rI v16))))
  | _ => no
def bX10_parse (J : JT) : JT := fun L a => match L with
  | 0 => bX10_parse_0 J a
  | _ => no
def SX10_parse : ST := mk 2 bX10_parse
def lX10_parse (L : Nat) (a : List Value) : Nat × Nat × Nat × List (Nat × Value) × List Value := match L with
  | 0 => (0, 0, 0, lv_args 0 a, [])
  | _ => (0, 0, 0, [], [])
theorem pX10_parse_0 {Γ : CT} (hC : Ctx Γ "SpiritWall" cX10_parse 2 (some .int) rmX10_parse) (hnt : NT Γ) (J : JT) (hJ : ∀ L a, Cor Γ 2 (lX10_parse L a).1 (lX10_parse L a).2.1 (lX10_parse L a).2.2.1 (lX10_parse L a).2.2.2.1 (lX10_parse L a).2.2.2.2 (J L a)) (a : List Value) : Cor Γ 2 0 0 0 (lv_args 0 a) [] (bX10_parse_0 J a) := by
  unfold bX10_parse_0
  split
  · rename_i x0
    refine c_sub [0] rfl (loc' := [(0, .ref x0)]) ?_
    refine q_aload_n hC 0 dX10_parse_0 rfl rfl ?_
    refine q_getR hC (by decide) (by decide) rfl w_145 dX10_parse_1 (fun r1 => ?_)
    refine q_cVI hC hnt (stk := []) (as := []) sX5_readText (ci := 5) (by decide) rfl nX5_readText rfl w_329 w_331 w_332 w_144 w_330 (Nat.le_of_ble_eq_true rfl) dX10_parse_4 rfl (fun v2 => ?_)
    refine q_istore_nA hC (loc' := [(1, .int v2), (0, .ref x0)]) dX10_parse_7 rfl (Nat.le_of_ble_eq_true rfl) rfl ?_
    refine q_aload_n hC 1 dX10_parse_8 rfl rfl ?_
    refine q_aload_n hC 1 dX10_parse_9 rfl rfl ?_
    refine q_getR hC (by decide) (by decide) rfl w_145 dX10_parse_10 (fun r3 => ?_)
    refine q_getI hC (by decide) (by decide) rfl w_333 dX10_parse_13 (fun v4 => ?_)
    refine q_putI hC (by decide) (by decide) rfl rfl w_167 dX10_parse_16 ?_
    refine q_aload_n hC 1 dX10_parse_19 rfl rfl ?_
    refine q_aload_n hC 1 dX10_parse_20 rfl rfl ?_
    refine q_getR hC (by decide) (by decide) rfl w_145 dX10_parse_21 (fun r5 => ?_)
    refine q_getI hC (by decide) (by decide) rfl w_334 dX10_parse_24 (fun v6 => ?_)
    refine q_putI hC (by decide) (by decide) rfl rfl w_168 dX10_parse_27 ?_
    refine q_aload_n hC 1 dX10_parse_30 rfl rfl ?_
    refine q_getR hC (by decide) (by decide) rfl w_128 dX10_parse_31 (fun r7 => ?_)
    refine q_iconst hC dX10_parse_34 rfl ?_
    refine q_putI hC (by decide) (by decide) rfl rfl w_192 dX10_parse_35 ?_
    refine q_iload_n hC 0 dX10_parse_38 rfl rfl ?_
    refine q_if_ne hC 44 dX10_parse_39 rfl ?_ ?_
    · refine q_aload_n hC 1 dX10_parse_44 rfl rfl ?_
      refine q_getR hC (by decide) (by decide) rfl w_131 dX10_parse_45 (fun r8 => ?_)
      refine q_aload_n hC 1 dX10_parse_48 rfl rfl ?_
      refine q_getR hC (by decide) (by decide) rfl w_145 dX10_parse_49 (fun r9 => ?_)
      refine q_getR hC (by decide) (by decide) rfl w_335 dX10_parse_52 (fun r10 => ?_)
      refine q_cVV hC hnt (stk := []) (as := [.ref r10]) sX9_copyFrom (ci := 9) (by decide) rfl nX9_copyFrom rfl w_336 w_338 w_339 w_65 w_337 (Nat.le_of_ble_eq_true rfl) dX10_parse_55 rfl ?_
      refine q_aload_n hC 1 dX10_parse_58 rfl rfl ?_
      refine q_getR hC (by decide) (by decide) rfl w_133 dX10_parse_59 (fun r11 => ?_)
      refine q_aload_n hC 1 dX10_parse_62 rfl rfl ?_
      refine q_getR hC (by decide) (by decide) rfl w_145 dX10_parse_63 (fun r12 => ?_)
      refine q_getR hC (by decide) (by decide) rfl w_340 dX10_parse_66 (fun r13 => ?_)
      refine q_cVV hC hnt (stk := []) (as := [.ref r13]) sX6_copyFrom (ci := 6) (by decide) rfl nX6_copyFrom rfl w_341 w_343 w_344 w_35 w_342 (Nat.le_of_ble_eq_true rfl) dX10_parse_69 rfl ?_
      refine q_aload_n hC 1 dX10_parse_72 rfl rfl ?_
      refine q_getR hC (by decide) (by decide) rfl w_140 dX10_parse_73 (fun r14 => ?_)
      refine q_iconst hC dX10_parse_76 rfl ?_
      refine q_putI hC (by decide) (by decide) rfl rfl w_345 dX10_parse_77 ?_
      refine q_aload_n hC 1 dX10_parse_80 rfl rfl ?_
      refine q_iconst hC dX10_parse_81 rfl ?_
      refine q_putZ hC (by decide) (by decide) rfl rfl w_166 dX10_parse_82 ?_
      refine q_aload_n hC 1 dX10_parse_85 rfl rfl ?_
      refine q_getR hC (by decide) (by decide) rfl w_131 dX10_parse_86 (fun r15 => ?_)
      refine q_getI hC (by decide) (by decide) rfl w_346 dX10_parse_89 (fun v16 => ?_)
      exact q_iret hC dX10_parse_92 (Nat.le_of_ble_eq_true rfl) (Nat.le_of_ble_eq_true rfl)
    · refine q_iconst hC dX10_parse_42 rfl ?_
      exact q_iret hC dX10_parse_43 (Nat.le_of_ble_eq_true rfl) (Nat.le_of_ble_eq_true rfl)
  · exact c_no
theorem sX10_parse : Snd yX10_parse (.code yX10_parse cX10_parse 2 (some .int)) rmX10_parse SX10_parse := by
  refine Snd.of lX10_parse (by decide +kernel) (fun _ => rfl) ?_
  intro Γ hC hnt hnm J hJ L a
  match L with
  | 0 => exact pX10_parse_0 hC hnt J hJ a
  | L + 1 => exact c_no
/-! SpiritWall.errorCode()I -/
theorem dX10_errorCode_0 : decode cX10_errorCode 0 = .ok (.aload_n 0, 1) := by decide +kernel
theorem dX10_errorCode_1 : decode cX10_errorCode 1 = .ok (.getfield 95, 3) := by decide +kernel
theorem dX10_errorCode_4 : decode cX10_errorCode 4 = .ok (.ireturn, 1) := by decide +kernel
def rmX10_errorCode : Room := rmk 6 0 0 150
theorem nX10_errorCode : nameOk yX10_errorCode 0 = true := by decide +kernel
def bX10_errorCode_0 (J : JT) : List Value → Sem
  | [.ref x0] =>
    gI 10 13 x0 fun v1 =>
    rI v1
  | _ => no
def bX10_errorCode (J : JT) : JT := fun L a => match L with
  | 0 => bX10_errorCode_0 J a
  | _ => no
def SX10_errorCode : ST := mk 1 bX10_errorCode
def lX10_errorCode (L : Nat) (a : List Value) : Nat × Nat × Nat × List (Nat × Value) × List Value := match L with
  | 0 => (0, 0, 0, lv_args 0 a, [])
  | _ => (0, 0, 0, [], [])
theorem pX10_errorCode_0 {Γ : CT} (hC : Ctx Γ "SpiritWall" cX10_errorCode 1 (some .int) rmX10_errorCode) (hnt : NT Γ) (J : JT) (hJ : ∀ L a, Cor Γ 1 (lX10_errorCode L a).1 (lX10_errorCode L a).2.1 (lX10_errorCode L a).2.2.1 (lX10_errorCode L a).2.2.2.1 (lX10_errorCode L a).2.2.2.2 (J L a)) (a : List Value) : Cor Γ 1 0 0 0 (lv_args 0 a) [] (bX10_errorCode_0 J a) := by
  unfold bX10_errorCode_0
  split
  · rename_i x0
    refine c_sub [0] rfl (loc' := [(0, .ref x0)]) ?_
    refine q_aload_n hC 0 dX10_errorCode_0 rfl rfl ?_
    refine q_getI hC (by decide) (by decide) rfl w_167 dX10_errorCode_1 (fun v1 => ?_)
    exact q_iret hC dX10_errorCode_4 (Nat.le_of_ble_eq_true rfl) (Nat.le_of_ble_eq_true rfl)
  · exact c_no
theorem sX10_errorCode : Snd yX10_errorCode (.code yX10_errorCode cX10_errorCode 1 (some .int)) rmX10_errorCode SX10_errorCode := by
  refine Snd.of lX10_errorCode (by decide +kernel) (fun _ => rfl) ?_
  intro Γ hC hnt hnm J hJ L a
  match L with
  | 0 => exact pX10_errorCode_0 hC hnt J hJ a
  | L + 1 => exact c_no
/-! SpiritWall.errorOffset()I -/
theorem dX10_errorOffset_0 : decode cX10_errorOffset 0 = .ok (.aload_n 0, 1) := by decide +kernel
theorem dX10_errorOffset_1 : decode cX10_errorOffset 1 = .ok (.getfield 99, 3) := by decide +kernel
theorem dX10_errorOffset_4 : decode cX10_errorOffset 4 = .ok (.ireturn, 1) := by decide +kernel
def rmX10_errorOffset : Room := rmk 6 0 0 150
theorem nX10_errorOffset : nameOk yX10_errorOffset 0 = true := by decide +kernel
def bX10_errorOffset_0 (J : JT) : List Value → Sem
  | [.ref x0] =>
    gI 10 14 x0 fun v1 =>
    rI v1
  | _ => no
def bX10_errorOffset (J : JT) : JT := fun L a => match L with
  | 0 => bX10_errorOffset_0 J a
  | _ => no
def SX10_errorOffset : ST := mk 1 bX10_errorOffset
def lX10_errorOffset (L : Nat) (a : List Value) : Nat × Nat × Nat × List (Nat × Value) × List Value := match L with
  | 0 => (0, 0, 0, lv_args 0 a, [])
  | _ => (0, 0, 0, [], [])
theorem pX10_errorOffset_0 {Γ : CT} (hC : Ctx Γ "SpiritWall" cX10_errorOffset 1 (some .int) rmX10_errorOffset) (hnt : NT Γ) (J : JT) (hJ : ∀ L a, Cor Γ 1 (lX10_errorOffset L a).1 (lX10_errorOffset L a).2.1 (lX10_errorOffset L a).2.2.1 (lX10_errorOffset L a).2.2.2.1 (lX10_errorOffset L a).2.2.2.2 (J L a)) (a : List Value) : Cor Γ 1 0 0 0 (lv_args 0 a) [] (bX10_errorOffset_0 J a) := by
  unfold bX10_errorOffset_0
  split
  · rename_i x0
    refine c_sub [0] rfl (loc' := [(0, .ref x0)]) ?_
    refine q_aload_n hC 0 dX10_errorOffset_0 rfl rfl ?_
    refine q_getI hC (by decide) (by decide) rfl w_168 dX10_errorOffset_1 (fun v1 => ?_)
    exact q_iret hC dX10_errorOffset_4 (Nat.le_of_ble_eq_true rfl) (Nat.le_of_ble_eq_true rfl)
  · exact c_no
theorem sX10_errorOffset : Snd yX10_errorOffset (.code yX10_errorOffset cX10_errorOffset 1 (some .int)) rmX10_errorOffset SX10_errorOffset := by
  refine Snd.of lX10_errorOffset (by decide +kernel) (fun _ => rfl) ?_
  intro Γ hC hnt hnm J hJ L a
  match L with
  | 0 => exact pX10_errorOffset_0 hC hnt J hJ a
  | L + 1 => exact c_no
/-! SpiritWall$Wall.distance(II)I -/
theorem dX9_distance_0 : decode cX9_distance 0 = .ok (.aload_n 0, 1) := by decide +kernel
theorem dX9_distance_1 : decode cX9_distance 1 = .ok (.getfield 19, 3) := by decide +kernel
theorem dX9_distance_4 : decode cX9_distance 4 = .ok (.iload_n 1, 1) := by decide +kernel
theorem dX9_distance_5 : decode cX9_distance 5 = .ok (.invokestatic 30, 3) := by decide +kernel
theorem dX9_distance_8 : decode cX9_distance 8 = .ok (.aload_n 0, 1) := by decide +kernel
theorem dX9_distance_9 : decode cX9_distance 9 = .ok (.getfield 19, 3) := by decide +kernel
theorem dX9_distance_12 : decode cX9_distance 12 = .ok (.iload_n 2, 1) := by decide +kernel
theorem dX9_distance_13 : decode cX9_distance 13 = .ok (.invokestatic 30, 3) := by decide +kernel
theorem dX9_distance_16 : decode cX9_distance 16 = .ok (.isub, 1) := by decide +kernel
theorem dX9_distance_17 : decode cX9_distance 17 = .ok (.istore_n 3, 1) := by decide +kernel
theorem dX9_distance_18 : decode cX9_distance 18 = .ok (.iload_n 3, 1) := by decide +kernel
theorem dX9_distance_19 : decode cX9_distance 19 = .ok (.ifCond .ge 8, 3) := by decide +kernel
theorem dX9_distance_22 : decode cX9_distance 22 = .ok (.iload_n 3, 1) := by decide +kernel
theorem dX9_distance_23 : decode cX9_distance 23 = .ok (.ineg, 1) := by decide +kernel
theorem dX9_distance_24 : decode cX9_distance 24 = .ok (.goto 4, 3) := by decide +kernel
theorem dX9_distance_27 : decode cX9_distance 27 = .ok (.iload_n 3, 1) := by decide +kernel
theorem dX9_distance_28 : decode cX9_distance 28 = .ok (.ireturn, 1) := by decide +kernel
def rmX9_distance : Room := rmk 7 0 0 171
theorem nX9_distance : nameOk yX9_distance 2 = true := by decide +kernel
def bX9_distance_0 (J : JT) : List Value → Sem
  | [.ref x0, .int x1, .int x2] =>
    gR 9 2 x0 fun r1 =>
    cI SX10_cell [.ref r1, .int x1] fun v2 =>
    gR 9 2 x0 fun r3 =>
    cI SX10_cell [.ref r3, .int x2] fun v4 =>
    lI (v2 - v4) fun y3_5 =>
    br (0 ≤ y3_5)
    (rI y3_5)
    (rI (-y3_5))
  | _ => no
def bX9_distance (J : JT) : JT := fun L a => match L with
  | 0 => bX9_distance_0 J a
  | _ => no
def SX9_distance : ST := mk 4 bX9_distance
def lX9_distance (L : Nat) (a : List Value) : Nat × Nat × Nat × List (Nat × Value) × List Value := match L with
  | 0 => (0, 0, 0, lv_args 0 a, [])
  | _ => (0, 0, 0, [], [])
theorem pX9_distance_0 {Γ : CT} (hC : Ctx Γ "SpiritWall$Wall" cX9_distance 4 (some .int) rmX9_distance) (hnt : NT Γ) (J : JT) (hJ : ∀ L a, Cor Γ 4 (lX9_distance L a).1 (lX9_distance L a).2.1 (lX9_distance L a).2.2.1 (lX9_distance L a).2.2.2.1 (lX9_distance L a).2.2.2.2 (J L a)) (a : List Value) : Cor Γ 4 0 0 0 (lv_args 0 a) [] (bX9_distance_0 J a) := by
  unfold bX9_distance_0
  split
  · rename_i x0 x1 x2
    refine c_sub [0, 1, 2] rfl (loc' := [(0, .ref x0), (1, .int x1), (2, .int x2)]) ?_
    refine q_aload_n hC 0 dX9_distance_0 rfl rfl ?_
    refine q_getR hC (by decide) (by decide) rfl w_8 dX9_distance_1 (fun r1 => ?_)
    refine q_iload_n hC 1 dX9_distance_4 rfl rfl ?_
    refine q_cNI hC hnt (stk := []) (as := [.ref r1, .int x1]) sX10_cell nX10_cell rfl w_233 w_202 w_27 w_201 (Nat.le_of_ble_eq_true rfl) dX9_distance_5 rfl (fun v2 => ?_)
    refine q_aload_n hC 0 dX9_distance_8 rfl rfl ?_
    refine q_getR hC (by decide) (by decide) rfl w_8 dX9_distance_9 (fun r3 => ?_)
    refine q_iload_n hC 2 dX9_distance_12 rfl rfl ?_
    refine q_cNI hC hnt (stk := [.int v2]) (as := [.ref r3, .int x2]) sX10_cell nX10_cell rfl w_233 w_202 w_27 w_201 (Nat.le_of_ble_eq_true rfl) dX9_distance_13 rfl (fun v4 => ?_)
    refine q_isub hC dX9_distance_16 ?_
    refine q_istore_n hC (fun y3_5 => [(3, .int y3_5), (0, .ref x0), (1, .int x1), (2, .int x2)]) dX9_distance_17 rfl (Nat.le_of_ble_eq_true rfl) (fun _ => rfl) (fun y3_5 => ?_)
    refine q_iload_n hC 0 dX9_distance_18 rfl rfl ?_
    refine q_if_ge hC 27 dX9_distance_19 rfl ?_ ?_
    · refine q_iload_n hC 0 dX9_distance_27 rfl rfl ?_
      exact q_iret hC dX9_distance_28 (Nat.le_of_ble_eq_true rfl) (Nat.le_of_ble_eq_true rfl)
    · refine q_iload_n hC 0 dX9_distance_22 rfl rfl ?_
      refine q_ineg hC dX9_distance_23 ?_
      refine q_goto hC 28 dX9_distance_24 rfl ?_
      exact q_iret hC dX9_distance_28 (Nat.le_of_ble_eq_true rfl) (Nat.le_of_ble_eq_true rfl)
  · exact c_no
theorem sX9_distance : Snd yX9_distance (.code yX9_distance cX9_distance 4 (some .int)) rmX9_distance SX9_distance := by
  refine Snd.of lX9_distance (by decide +kernel) (fun _ => rfl) ?_
  intro Γ hC hnt hnm J hJ L a
  match L with
  | 0 => exact pX9_distance_0 hC hnt J hJ a
  | L + 1 => exact c_no
/-! SpiritWall$State.settingOf(I)I -/
theorem dX6_settingOf_0 : decode cX6_settingOf 0 = .ok (.aload_n 0, 1) := by decide +kernel
theorem dX6_settingOf_1 : decode cX6_settingOf 1 = .ok (.getfield 9, 3) := by decide +kernel
theorem dX6_settingOf_4 : decode cX6_settingOf 4 = .ok (.iload_n 1, 1) := by decide +kernel
theorem dX6_settingOf_5 : decode cX6_settingOf 5 = .ok (.invokestatic 64, 3) := by decide +kernel
theorem dX6_settingOf_8 : decode cX6_settingOf 8 = .ok (.ireturn, 1) := by decide +kernel
def rmX6_settingOf : Room := rmk 7 0 0 171
theorem nX6_settingOf : nameOk yX6_settingOf 1 = true := by decide +kernel
def bX6_settingOf_0 (J : JT) : List Value → Sem
  | [.ref x0, .int x1] =>
    gR 6 0 x0 fun r1 =>
    cI SX10_cell [.ref r1, .int x1] fun v2 =>
    rI v2
  | _ => no
def bX6_settingOf (J : JT) : JT := fun L a => match L with
  | 0 => bX6_settingOf_0 J a
  | _ => no
def SX6_settingOf : ST := mk 2 bX6_settingOf
def lX6_settingOf (L : Nat) (a : List Value) : Nat × Nat × Nat × List (Nat × Value) × List Value := match L with
  | 0 => (0, 0, 0, lv_args 0 a, [])
  | _ => (0, 0, 0, [], [])
theorem pX6_settingOf_0 {Γ : CT} (hC : Ctx Γ "SpiritWall$State" cX6_settingOf 2 (some .int) rmX6_settingOf) (hnt : NT Γ) (J : JT) (hJ : ∀ L a, Cor Γ 2 (lX6_settingOf L a).1 (lX6_settingOf L a).2.1 (lX6_settingOf L a).2.2.1 (lX6_settingOf L a).2.2.2.1 (lX6_settingOf L a).2.2.2.2 (J L a)) (a : List Value) : Cor Γ 2 0 0 0 (lv_args 0 a) [] (bX6_settingOf_0 J a) := by
  unfold bX6_settingOf_0
  split
  · rename_i x0 x1
    refine c_sub [0, 1] rfl (loc' := [(0, .ref x0), (1, .int x1)]) ?_
    refine q_aload_n hC 0 dX6_settingOf_0 rfl rfl ?_
    refine q_getR hC (by decide) (by decide) rfl w_10 dX6_settingOf_1 (fun r1 => ?_)
    refine q_iload_n hC 1 dX6_settingOf_4 rfl rfl ?_
    refine q_cNI hC hnt (stk := []) (as := [.ref r1, .int x1]) sX10_cell nX10_cell rfl w_347 w_202 w_27 w_201 (Nat.le_of_ble_eq_true rfl) dX6_settingOf_5 rfl (fun v2 => ?_)
    exact q_iret hC dX6_settingOf_8 (Nat.le_of_ble_eq_true rfl) (Nat.le_of_ble_eq_true rfl)
  · exact c_no
theorem sX6_settingOf : Snd yX6_settingOf (.code yX6_settingOf cX6_settingOf 2 (some .int)) rmX6_settingOf SX6_settingOf := by
  refine Snd.of lX6_settingOf (by decide +kernel) (fun _ => rfl) ?_
  intro Γ hC hnt hnm J hJ L a
  match L with
  | 0 => exact pX6_settingOf_0 hC hnt J hJ a
  | L + 1 => exact c_no
/-! java/lang/Math.floorDiv(JJ)J -/
theorem dJ9_floorDiv_f86c9_0 : decode cJ9_floorDiv_f86c9 0 = .ok (.lload_n 0, 1) := by decide +kernel
theorem dJ9_floorDiv_f86c9_1 : decode cJ9_floorDiv_f86c9 1 = .ok (.lload_n 2, 1) := by decide +kernel
theorem dJ9_floorDiv_f86c9_2 : decode cJ9_floorDiv_f86c9 2 = .ok (.ldiv, 1) := by decide +kernel
theorem dJ9_floorDiv_f86c9_3 : decode cJ9_floorDiv_f86c9 3 = .ok (.lstore 4, 2) := by decide +kernel
theorem dJ9_floorDiv_f86c9_5 : decode cJ9_floorDiv_f86c9 5 = .ok (.lload_n 0, 1) := by decide +kernel
theorem dJ9_floorDiv_f86c9_6 : decode cJ9_floorDiv_f86c9 6 = .ok (.lload_n 2, 1) := by decide +kernel
theorem dJ9_floorDiv_f86c9_7 : decode cJ9_floorDiv_f86c9 7 = .ok (.lxor, 1) := by decide +kernel
theorem dJ9_floorDiv_f86c9_8 : decode cJ9_floorDiv_f86c9 8 = .ok (.lconst 0, 1) := by decide +kernel
theorem dJ9_floorDiv_f86c9_9 : decode cJ9_floorDiv_f86c9 9 = .ok (.lcmp, 1) := by decide +kernel
theorem dJ9_floorDiv_f86c9_10 : decode cJ9_floorDiv_f86c9 10 = .ok (.ifCond .ge 17, 3) := by decide +kernel
theorem dJ9_floorDiv_f86c9_13 : decode cJ9_floorDiv_f86c9 13 = .ok (.lload 4, 2) := by decide +kernel
theorem dJ9_floorDiv_f86c9_15 : decode cJ9_floorDiv_f86c9 15 = .ok (.lload_n 2, 1) := by decide +kernel
theorem dJ9_floorDiv_f86c9_16 : decode cJ9_floorDiv_f86c9 16 = .ok (.lmul, 1) := by decide +kernel
theorem dJ9_floorDiv_f86c9_17 : decode cJ9_floorDiv_f86c9 17 = .ok (.lload_n 0, 1) := by decide +kernel
theorem dJ9_floorDiv_f86c9_18 : decode cJ9_floorDiv_f86c9 18 = .ok (.lcmp, 1) := by decide +kernel
theorem dJ9_floorDiv_f86c9_19 : decode cJ9_floorDiv_f86c9 19 = .ok (.ifCond .eq 8, 3) := by decide +kernel
theorem dJ9_floorDiv_f86c9_22 : decode cJ9_floorDiv_f86c9 22 = .ok (.lload 4, 2) := by decide +kernel
theorem dJ9_floorDiv_f86c9_24 : decode cJ9_floorDiv_f86c9 24 = .ok (.lconst 1, 1) := by decide +kernel
theorem dJ9_floorDiv_f86c9_25 : decode cJ9_floorDiv_f86c9 25 = .ok (.lsub, 1) := by decide +kernel
theorem dJ9_floorDiv_f86c9_26 : decode cJ9_floorDiv_f86c9 26 = .ok (.lreturn, 1) := by decide +kernel
theorem dJ9_floorDiv_f86c9_27 : decode cJ9_floorDiv_f86c9 27 = .ok (.lload 4, 2) := by decide +kernel
theorem dJ9_floorDiv_f86c9_29 : decode cJ9_floorDiv_f86c9 29 = .ok (.lreturn, 1) := by decide +kernel
def rmJ9_floorDiv_f86c9 : Room := rmk 6 0 0 150
theorem nJ9_floorDiv_f86c9 : nameOk yJ9_floorDiv_f86c9 2 = true := by decide +kernel
def bJ9_floorDiv_f86c9_0 (J : JT) : List Value → Sem
  | [.long x0, .long x2] =>
    nzl x2 <|
    lJ (x0 / x2) fun y4_1 =>
    br (0 ≤ (lg_cmp (x0 ^^^ x2) 0))
    (rJ y4_1)
    (br ((lg_cmp (y4_1 * x2) x0) = 0)
    (rJ y4_1)
    (rJ (y4_1 - 1)))
  | _ => no
def bJ9_floorDiv_f86c9 (J : JT) : JT := fun L a => match L with
  | 0 => bJ9_floorDiv_f86c9_0 J a
  | _ => no
def SJ9_floorDiv_f86c9 : ST := mk 6 bJ9_floorDiv_f86c9
def lJ9_floorDiv_f86c9 (L : Nat) (a : List Value) : Nat × Nat × Nat × List (Nat × Value) × List Value := match L with
  | 0 => (0, 0, 0, lv_args 0 a, [])
  | _ => (0, 0, 0, [], [])
theorem pJ9_floorDiv_f86c9_0 {Γ : CT} (hC : Ctx Γ "java/lang/Math" cJ9_floorDiv_f86c9 6 (some .long) rmJ9_floorDiv_f86c9) (hnt : NT Γ) (J : JT) (hJ : ∀ L a, Cor Γ 6 (lJ9_floorDiv_f86c9 L a).1 (lJ9_floorDiv_f86c9 L a).2.1 (lJ9_floorDiv_f86c9 L a).2.2.1 (lJ9_floorDiv_f86c9 L a).2.2.2.1 (lJ9_floorDiv_f86c9 L a).2.2.2.2 (J L a)) (a : List Value) : Cor Γ 6 0 0 0 (lv_args 0 a) [] (bJ9_floorDiv_f86c9_0 J a) := by
  unfold bJ9_floorDiv_f86c9_0
  split
  · rename_i x0 x2
    refine c_sub [0, 1] rfl (loc' := [(0, .long x0), (2, .long x2)]) ?_
    refine q_lload_n hC 0 dJ9_floorDiv_f86c9_0 rfl rfl ?_
    refine q_lload_n hC 1 dJ9_floorDiv_f86c9_1 rfl rfl ?_
    refine q_ldiv hC dJ9_floorDiv_f86c9_2 ?_
    refine q_lstore hC (fun y4_1 => [(4, .long y4_1), (0, .long x0), (2, .long x2)]) dJ9_floorDiv_f86c9_3 (Nat.le_of_ble_eq_true rfl) (fun _ => rfl) (fun y4_1 => ?_)
    refine q_lload_n hC 1 dJ9_floorDiv_f86c9_5 rfl rfl ?_
    refine q_lload_n hC 2 dJ9_floorDiv_f86c9_6 rfl rfl ?_
    refine q_lxor hC dJ9_floorDiv_f86c9_7 ?_
    refine q_lconst hC (v := 0) dJ9_floorDiv_f86c9_8 rfl ?_
    refine q_lcmp hC dJ9_floorDiv_f86c9_9 ?_
    refine q_if_ge hC 27 dJ9_floorDiv_f86c9_10 rfl ?_ ?_
    · refine q_lload hC 0 dJ9_floorDiv_f86c9_27 rfl ?_
      exact q_lret hC dJ9_floorDiv_f86c9_29 (Nat.le_of_ble_eq_true rfl) (Nat.le_of_ble_eq_true rfl)
    · refine q_lload hC 0 dJ9_floorDiv_f86c9_13 rfl ?_
      refine q_lload_n hC 2 dJ9_floorDiv_f86c9_15 rfl rfl ?_
      refine q_lmul hC dJ9_floorDiv_f86c9_16 ?_
      refine q_lload_n hC 1 dJ9_floorDiv_f86c9_17 rfl rfl ?_
      refine q_lcmp hC dJ9_floorDiv_f86c9_18 ?_
      refine q_if_eq hC 27 dJ9_floorDiv_f86c9_19 rfl ?_ ?_
      · refine q_lload hC 0 dJ9_floorDiv_f86c9_27 rfl ?_
        exact q_lret hC dJ9_floorDiv_f86c9_29 (Nat.le_of_ble_eq_true rfl) (Nat.le_of_ble_eq_true rfl)
      · refine q_lload hC 0 dJ9_floorDiv_f86c9_22 rfl ?_
        refine q_lconst hC (v := 1) dJ9_floorDiv_f86c9_24 rfl ?_
        refine q_lsub hC dJ9_floorDiv_f86c9_25 ?_
        exact q_lret hC dJ9_floorDiv_f86c9_26 (Nat.le_of_ble_eq_true rfl) (Nat.le_of_ble_eq_true rfl)
  · exact c_no
theorem sJ9_floorDiv_f86c9 : Snd yJ9_floorDiv_f86c9 (.code yJ9_floorDiv_f86c9 cJ9_floorDiv_f86c9 6 (some .long)) rmJ9_floorDiv_f86c9 SJ9_floorDiv_f86c9 := by
  refine Snd.ofF lJ9_floorDiv_f86c9 (by decide +kernel) (fun _ => rfl) ?_
  intro Γ hC hnt hnm J hJ L a
  match L with
  | 0 => exact pJ9_floorDiv_f86c9_0 hC hnt J hJ a
  | L + 1 => exact c_no
/-! SpiritWall.quotient(JJ)J -/
theorem dX10_quotient_0 : decode cX10_quotient 0 = .ok (.lload_n 2, 1) := by decide +kernel
theorem dX10_quotient_1 : decode cX10_quotient 1 = .ok (.lconst 0, 1) := by decide +kernel
theorem dX10_quotient_2 : decode cX10_quotient 2 = .ok (.lcmp, 1) := by decide +kernel
theorem dX10_quotient_3 : decode cX10_quotient 3 = .ok (.ifCond .ne 7, 3) := by decide +kernel
theorem dX10_quotient_6 : decode cX10_quotient 6 = .ok (.lconst 0, 1) := by decide +kernel
theorem dX10_quotient_7 : decode cX10_quotient 7 = .ok (.goto 8, 3) := by decide +kernel
theorem dX10_quotient_10 : decode cX10_quotient 10 = .ok (.lload_n 0, 1) := by decide +kernel
theorem dX10_quotient_11 : decode cX10_quotient 11 = .ok (.lload_n 2, 1) := by decide +kernel
theorem dX10_quotient_12 : decode cX10_quotient 12 = .ok (.invokestatic 454, 3) := by decide +kernel
theorem dX10_quotient_15 : decode cX10_quotient 15 = .ok (.lreturn, 1) := by decide +kernel
def rmX10_quotient : Room := rmk 7 0 0 175
theorem nX10_quotient : nameOk yX10_quotient 2 = true := by decide +kernel
def bX10_quotient_0 (J : JT) : List Value → Sem
  | [.long x0, .long x2] =>
    br ((lg_cmp x2 0) = 0)
    (rJ 0)
    (cJ SJ9_floorDiv_f86c9 [.long x0, .long x2] fun v1 =>
    rJ v1)
  | _ => no
def bX10_quotient (J : JT) : JT := fun L a => match L with
  | 0 => bX10_quotient_0 J a
  | _ => no
def SX10_quotient : ST := mk 4 bX10_quotient
def lX10_quotient (L : Nat) (a : List Value) : Nat × Nat × Nat × List (Nat × Value) × List Value := match L with
  | 0 => (0, 0, 0, lv_args 0 a, [])
  | _ => (0, 0, 0, [], [])
theorem pX10_quotient_0 {Γ : CT} (hC : Ctx Γ "SpiritWall" cX10_quotient 4 (some .long) rmX10_quotient) (hnt : NT Γ) (J : JT) (hJ : ∀ L a, Cor Γ 4 (lX10_quotient L a).1 (lX10_quotient L a).2.1 (lX10_quotient L a).2.2.1 (lX10_quotient L a).2.2.2.1 (lX10_quotient L a).2.2.2.2 (J L a)) (a : List Value) : Cor Γ 4 0 0 0 (lv_args 0 a) [] (bX10_quotient_0 J a) := by
  unfold bX10_quotient_0
  split
  · rename_i x0 x2
    refine c_sub [0, 1] rfl (loc' := [(0, .long x0), (2, .long x2)]) ?_
    refine q_lload_n hC 1 dX10_quotient_0 rfl rfl ?_
    refine q_lconst hC (v := 0) dX10_quotient_1 rfl ?_
    refine q_lcmp hC dX10_quotient_2 ?_
    refine q_if_ne hC 10 dX10_quotient_3 rfl ?_ ?_
    · refine q_lload_n hC 0 dX10_quotient_10 rfl rfl ?_
      refine q_lload_n hC 1 dX10_quotient_11 rfl rfl ?_
      refine q_cSJ hC hnt (stk := []) (as := [.long x0, .long x2]) sJ9_floorDiv_f86c9 nJ9_floorDiv_f86c9 rfl w_348 w_350 w_351 w_349 (Nat.le_of_ble_eq_true rfl) dX10_quotient_12 rfl (fun v1 => ?_)
      exact q_lret hC dX10_quotient_15 (Nat.le_of_ble_eq_true rfl) (Nat.le_of_ble_eq_true rfl)
    · refine q_lconst hC (v := 0) dX10_quotient_6 rfl ?_
      refine q_goto hC 15 dX10_quotient_7 rfl ?_
      exact q_lret hC dX10_quotient_15 (Nat.le_of_ble_eq_true rfl) (Nat.le_of_ble_eq_true rfl)
  · exact c_no
theorem sX10_quotient : Snd yX10_quotient (.code yX10_quotient cX10_quotient 4 (some .long)) rmX10_quotient SX10_quotient := by
  refine Snd.of lX10_quotient (by decide +kernel) (fun _ => rfl) ?_
  intro Γ hC hnt hnm J hJ L a
  match L with
  | 0 => exact pX10_quotient_0 hC hnt J hJ a
  | L + 1 => exact c_no
/-! SpiritWall$Edges.bendOf(I)I -/
theorem dX0_bendOf_0 : decode cX0_bendOf 0 = .ok (.aload_n 0, 1) := by decide +kernel
theorem dX0_bendOf_1 : decode cX0_bendOf 1 = .ok (.getfield 18, 3) := by decide +kernel
theorem dX0_bendOf_4 : decode cX0_bendOf 4 = .ok (.iload_n 1, 1) := by decide +kernel
theorem dX0_bendOf_5 : decode cX0_bendOf 5 = .ok (.invokestatic 102, 3) := by decide +kernel
theorem dX0_bendOf_8 : decode cX0_bendOf 8 = .ok (.i2l, 1) := by decide +kernel
theorem dX0_bendOf_9 : decode cX0_bendOf 9 = .ok (.lstore_n 2, 1) := by decide +kernel
theorem dX0_bendOf_10 : decode cX0_bendOf 10 = .ok (.aload_n 0, 1) := by decide +kernel
theorem dX0_bendOf_11 : decode cX0_bendOf 11 = .ok (.getfield 62, 3) := by decide +kernel
theorem dX0_bendOf_14 : decode cX0_bendOf 14 = .ok (.iconst 1, 1) := by decide +kernel
theorem dX0_bendOf_15 : decode cX0_bendOf 15 = .ok (.invokevirtual 87, 3) := by decide +kernel
theorem dX0_bendOf_18 : decode cX0_bendOf 18 = .ok (.i2l, 1) := by decide +kernel
theorem dX0_bendOf_19 : decode cX0_bendOf 19 = .ok (.lload_n 2, 1) := by decide +kernel
theorem dX0_bendOf_20 : decode cX0_bendOf 20 = .ok (.lmul, 1) := by decide +kernel
theorem dX0_bendOf_21 : decode cX0_bendOf 21 = .ok (.lload_n 2, 1) := by decide +kernel
theorem dX0_bendOf_22 : decode cX0_bendOf 22 = .ok (.lmul, 1) := by decide +kernel
theorem dX0_bendOf_23 : decode cX0_bendOf 23 = .ok (.ldc2_w 189, 3) := by decide +kernel
theorem dX0_bendOf_26 : decode cX0_bendOf 26 = .ok (.invokestatic 170, 3) := by decide +kernel
theorem dX0_bendOf_29 : decode cX0_bendOf 29 = .ok (.l2i, 1) := by decide +kernel
theorem dX0_bendOf_30 : decode cX0_bendOf 30 = .ok (.ireturn, 1) := by decide +kernel
def rmX0_bendOf : Room := rmk 8 0 0 198
theorem nX0_bendOf : nameOk yX0_bendOf 1 = true := by decide +kernel
def bX0_bendOf_0 (J : JT) : List Value → Sem
  | [.ref x0, .int x1] =>
    gR 0 4 x0 fun r1 =>
    cI SX10_cell [.ref r1, .int x1] fun v2 =>
    lJ (v2.toInt64) fun y2_3 =>
    gR 0 1 x0 fun r4 =>
    ob 6 r4 (cI SX6_settingOf [.ref r4, .int 1] fun v5 =>
    cJ SX10_quotient [.long (((v5.toInt64) * y2_3) * y2_3), .long 100000000] fun v6 =>
    rI (v6.toInt32))
  | _ => no
def bX0_bendOf (J : JT) : JT := fun L a => match L with
  | 0 => bX0_bendOf_0 J a
  | _ => no
def SX0_bendOf : ST := mk 4 bX0_bendOf
def lX0_bendOf (L : Nat) (a : List Value) : Nat × Nat × Nat × List (Nat × Value) × List Value := match L with
  | 0 => (0, 0, 0, lv_args 0 a, [])
  | _ => (0, 0, 0, [], [])
theorem pX0_bendOf_0 {Γ : CT} (hC : Ctx Γ "SpiritWall$Edges" cX0_bendOf 4 (some .int) rmX0_bendOf) (hnt : NT Γ) (J : JT) (hJ : ∀ L a, Cor Γ 4 (lX0_bendOf L a).1 (lX0_bendOf L a).2.1 (lX0_bendOf L a).2.2.1 (lX0_bendOf L a).2.2.2.1 (lX0_bendOf L a).2.2.2.2 (J L a)) (a : List Value) : Cor Γ 4 0 0 0 (lv_args 0 a) [] (bX0_bendOf_0 J a) := by
  unfold bX0_bendOf_0
  split
  · rename_i x0 x1
    refine c_sub [0, 1] rfl (loc' := [(0, .ref x0), (1, .int x1)]) ?_
    refine q_aload_n hC 0 dX0_bendOf_0 rfl rfl ?_
    refine q_getR hC (by decide) (by decide) rfl w_86 dX0_bendOf_1 (fun r1 => ?_)
    refine q_iload_n hC 1 dX0_bendOf_4 rfl rfl ?_
    refine q_cNI hC hnt (stk := []) (as := [.ref r1, .int x1]) sX10_cell nX10_cell rfl w_352 w_202 w_27 w_201 (Nat.le_of_ble_eq_true rfl) dX0_bendOf_5 rfl (fun v2 => ?_)
    refine q_i2l hC dX0_bendOf_8 ?_
    refine q_lstore_n hC (fun y2_3 => [(2, .long y2_3), (0, .ref x0), (1, .int x1)]) dX0_bendOf_9 rfl (Nat.le_of_ble_eq_true rfl) (fun _ => rfl) (fun y2_3 => ?_)
    refine q_aload_n hC 1 dX0_bendOf_10 rfl rfl ?_
    refine q_getR hC (by decide) (by decide) rfl w_100 dX0_bendOf_11 (fun r4 => ?_)
    refine q_iconst hC dX0_bendOf_14 rfl ?_
    refine q_cVI hC hnt (stk := []) (as := [.int 1]) sX6_settingOf (ci := 6) (by decide) rfl nX6_settingOf rfl w_353 w_355 w_356 w_35 w_354 (Nat.le_of_ble_eq_true rfl) dX0_bendOf_15 rfl (fun v5 => ?_)
    refine q_i2l hC dX0_bendOf_18 ?_
    refine q_lload_n hC 0 dX0_bendOf_19 rfl rfl ?_
    refine q_lmul hC dX0_bendOf_20 ?_
    refine q_lload_n hC 0 dX0_bendOf_21 rfl rfl ?_
    refine q_lmul hC dX0_bendOf_22 ?_
    refine q_ldc2 hC w_357 dX0_bendOf_23 ?_
    refine q_cNJ hC hnt (stk := []) (as := [.long (((v5.toInt64) * y2_3) * y2_3), .long 100000000]) sX10_quotient nX10_quotient rfl w_358 w_360 w_27 w_359 (Nat.le_of_ble_eq_true rfl) dX0_bendOf_26 rfl (fun v6 => ?_)
    refine q_l2i hC dX0_bendOf_29 ?_
    exact q_iret hC dX0_bendOf_30 (Nat.le_of_ble_eq_true rfl) (Nat.le_of_ble_eq_true rfl)
  · exact c_no
theorem sX0_bendOf : Snd yX0_bendOf (.code yX0_bendOf cX0_bendOf 4 (some .int)) rmX0_bendOf SX0_bendOf := by
  refine Snd.of lX0_bendOf (by decide +kernel) (fun _ => rfl) ?_
  intro Γ hC hnt hnm J hJ L a
  match L with
  | 0 => exact pX0_bendOf_0 hC hnt J hJ a
  | L + 1 => exact c_no
