/-! SpiritWall.fill([II)V -/
theorem dX10_fill_0 : decode cX10_fill 0 = .ok (.iconst 0, 1) := by decide +kernel
theorem dX10_fill_1 : decode cX10_fill 1 = .ok (.istore_n 2, 1) := by decide +kernel
theorem dX10_fill_2 : decode cX10_fill 2 = .ok (.iload_n 2, 1) := by decide +kernel
theorem dX10_fill_3 : decode cX10_fill 3 = .ok (.aload_n 0, 1) := by decide +kernel
theorem dX10_fill_4 : decode cX10_fill 4 = .ok (.arraylength, 1) := by decide +kernel
theorem dX10_fill_5 : decode cX10_fill 5 = .ok (.if_icmp .ge 13, 3) := by decide +kernel
theorem dX10_fill_8 : decode cX10_fill 8 = .ok (.aload_n 0, 1) := by decide +kernel
theorem dX10_fill_9 : decode cX10_fill 9 = .ok (.iload_n 2, 1) := by decide +kernel
theorem dX10_fill_10 : decode cX10_fill 10 = .ok (.iload_n 1, 1) := by decide +kernel
theorem dX10_fill_11 : decode cX10_fill 11 = .ok (.iastore, 1) := by decide +kernel
theorem dX10_fill_12 : decode cX10_fill 12 = .ok (.iinc 2 1, 3) := by decide +kernel
theorem dX10_fill_15 : decode cX10_fill 15 = .ok (.goto (-13), 3) := by decide +kernel
theorem dX10_fill_18 : decode cX10_fill 18 = .ok (.return_, 1) := by decide +kernel
def rmX10_fill : Room := rmk 6 0 0 150
theorem nX10_fill : nameOk yX10_fill 2 = true := by decide +kernel
def bX10_fill_0 (J : JT) : List Value → Sem
  | [.ref x0, .int x1] =>
    J 1 [.ref x0, .int x1, .int 0]
  | _ => no
def bX10_fill_1 (J : JT) : List Value → Sem
  | [.ref x0, .int x1, .int x2] =>
    aL x0 fun v1 =>
    br (v1 ≤ x2)
    (rV)
    (sA x0 x2 x1 <|
    J 1 [.ref x0, .int x1, .int (x2 + 1)])
  | _ => no
def bX10_fill (J : JT) : JT := fun L a => match L with
  | 0 => bX10_fill_0 J a
  | 1 => bX10_fill_1 J a
  | _ => no
def SX10_fill : ST := mk 3 bX10_fill
def lX10_fill (L : Nat) (a : List Value) : Nat × Nat × Nat × List (Nat × Value) × List Value := match L with
  | 0 => (0, 0, 0, lv_args 0 a, [])
  | 1 => (0, 0, 2, List.zip [0, 1, 2] a, [])
  | _ => (0, 0, 0, [], [])
theorem pX10_fill_0 {Γ : CT} (hC : Ctx Γ "SpiritWall" cX10_fill 3 none rmX10_fill) (hnt : NT Γ) (J : JT) (hJ : ∀ L a, Cor Γ 3 (lX10_fill L a).1 (lX10_fill L a).2.1 (lX10_fill L a).2.2.1 (lX10_fill L a).2.2.2.1 (lX10_fill L a).2.2.2.2 (J L a)) (a : List Value) : Cor Γ 3 0 0 0 (lv_args 0 a) [] (bX10_fill_0 J a) := by
  unfold bX10_fill_0
  split
  · rename_i x0 x1
    refine c_sub [0, 1] rfl (loc' := [(0, .ref x0), (1, .int x1)]) ?_
    refine q_iconst hC dX10_fill_0 rfl ?_
    refine q_istore_nA hC (loc' := [(2, .int 0), (0, .ref x0), (1, .int x1)]) dX10_fill_1 rfl (Nat.le_of_ble_eq_true rfl) rfl ?_
    exact c_sub [1, 2, 0] rfl (hJ 1 [.ref x0, .int x1, .int 0])
  · exact c_no
theorem pX10_fill_1 {Γ : CT} (hC : Ctx Γ "SpiritWall" cX10_fill 3 none rmX10_fill) (hnt : NT Γ) (J : JT) (hJ : ∀ L a, Cor Γ 3 (lX10_fill L a).1 (lX10_fill L a).2.1 (lX10_fill L a).2.2.1 (lX10_fill L a).2.2.2.1 (lX10_fill L a).2.2.2.2 (J L a)) (a : List Value) : Cor Γ 3 0 0 2 (List.zip [0, 1, 2] a) [] (bX10_fill_1 J a) := by
  unfold bX10_fill_1
  split
  · rename_i x0 x1 x2
    refine c_sub [0, 1, 2] rfl (loc' := [(0, .ref x0), (1, .int x1), (2, .int x2)]) ?_
    refine q_iload_n hC 2 dX10_fill_2 rfl rfl ?_
    refine q_aload_n hC 0 dX10_fill_3 rfl rfl ?_
    refine q_alen hC dX10_fill_4 (fun v1 => ?_)
    refine q_ic_ge hC 18 dX10_fill_5 rfl ?_ ?_
    · exact q_vret hC dX10_fill_18 (Nat.le_of_ble_eq_true rfl) (Nat.le_of_ble_eq_true rfl)
    · refine q_aload_n hC 0 dX10_fill_8 rfl rfl ?_
      refine q_iload_n hC 2 dX10_fill_9 rfl rfl ?_
      refine q_iload_n hC 1 dX10_fill_10 rfl rfl ?_
      refine q_iast hC dX10_fill_11 ?_
      refine q_iincA hC (loc' := [(2, .int (x2 + 1)), (0, .ref x0), (1, .int x1)]) 2 1 dX10_fill_12 rfl rfl (Nat.le_of_ble_eq_true rfl) rfl ?_
      refine q_goto hC 2 dX10_fill_15 rfl ?_
      exact c_sub [1, 2, 0] rfl (hJ 1 [.ref x0, .int x1, .int (x2 + 1)])
  · exact c_no
theorem sX10_fill : Snd yX10_fill (.code yX10_fill cX10_fill 3 none) rmX10_fill SX10_fill := by
  refine Snd.of lX10_fill (by decide +kernel) (fun _ => rfl) ?_
  intro Γ hC hnt hnm J hJ L a
  match L with
  | 0 => exact pX10_fill_0 hC hnt J hJ a
  | 1 => exact pX10_fill_1 hC hnt J hJ a
  | L + 2 => exact c_no
/-! SpiritWall$State.clear()V -/
theorem dX6_clear_0 : decode cX6_clear 0 = .ok (.aload_n 0, 1) := by decide +kernel
theorem dX6_clear_1 : decode cX6_clear 1 = .ok (.getfield 9, 3) := by decide +kernel
theorem dX6_clear_4 : decode cX6_clear 4 = .ok (.getstatic 53, 3) := by decide +kernel
theorem dX6_clear_7 : decode cX6_clear 7 = .ok (.invokestatic 56, 3) := by decide +kernel
theorem dX6_clear_10 : decode cX6_clear 10 = .ok (.aload_n 0, 1) := by decide +kernel
theorem dX6_clear_11 : decode cX6_clear 11 = .ok (.iconst 0, 1) := by decide +kernel
theorem dX6_clear_12 : decode cX6_clear 12 = .ok (.putfield 15, 3) := by decide +kernel
theorem dX6_clear_15 : decode cX6_clear 15 = .ok (.aload_n 0, 1) := by decide +kernel
theorem dX6_clear_16 : decode cX6_clear 16 = .ok (.getfield 23, 3) := by decide +kernel
theorem dX6_clear_19 : decode cX6_clear 19 = .ok (.iconst 0, 1) := by decide +kernel
theorem dX6_clear_20 : decode cX6_clear 20 = .ok (.invokestatic 60, 3) := by decide +kernel
theorem dX6_clear_23 : decode cX6_clear 23 = .ok (.aload_n 0, 1) := by decide +kernel
theorem dX6_clear_24 : decode cX6_clear 24 = .ok (.getfield 26, 3) := by decide +kernel
theorem dX6_clear_27 : decode cX6_clear 27 = .ok (.iconst 0, 1) := by decide +kernel
theorem dX6_clear_28 : decode cX6_clear 28 = .ok (.invokestatic 60, 3) := by decide +kernel
theorem dX6_clear_31 : decode cX6_clear 31 = .ok (.aload_n 0, 1) := by decide +kernel
theorem dX6_clear_32 : decode cX6_clear 32 = .ok (.iconst 0, 1) := by decide +kernel
theorem dX6_clear_33 : decode cX6_clear 33 = .ok (.putfield 32, 3) := by decide +kernel
theorem dX6_clear_36 : decode cX6_clear 36 = .ok (.return_, 1) := by decide +kernel
def rmX6_clear : Room := rmk 7 0 0 172
theorem nX6_clear : nameOk yX6_clear 0 = true := by decide +kernel
def bX6_clear_0 (J : JT) : List Value → Sem
  | [.ref x0] =>
    gR 6 0 x0 fun r1 =>
    cV SX10_copyRow [.ref r1, .ref 1002] <|
    pZ 6 1 x0 0 <|
    gR 6 3 x0 fun r2 =>
    cV SX10_fill [.ref r2, .int 0] <|
    gR 6 4 x0 fun r3 =>
    cV SX10_fill [.ref r3, .int 0] <|
    pI 6 6 x0 0 <|
    rV
  | _ => no
def bX6_clear (J : JT) : JT := fun L a => match L with
  | 0 => bX6_clear_0 J a
  | _ => no
def SX6_clear : ST := mk 1 bX6_clear
def lX6_clear (L : Nat) (a : List Value) : Nat × Nat × Nat × List (Nat × Value) × List Value := match L with
  | 0 => (0, 0, 0, lv_args 0 a, [])
  | _ => (0, 0, 0, [], [])
theorem pX6_clear_0 {Γ : CT} (hC : Ctx Γ "SpiritWall$State" cX6_clear 1 none rmX6_clear) (hnt : NT Γ) (J : JT) (hJ : ∀ L a, Cor Γ 1 (lX6_clear L a).1 (lX6_clear L a).2.1 (lX6_clear L a).2.2.1 (lX6_clear L a).2.2.2.1 (lX6_clear L a).2.2.2.2 (J L a)) (a : List Value) : Cor Γ 1 0 0 0 (lv_args 0 a) [] (bX6_clear_0 J a) := by
  unfold bX6_clear_0
  split
  · rename_i x0
    refine c_sub [0] rfl (loc' := [(0, .ref x0)]) ?_
    refine q_aload_n hC 0 dX6_clear_0 rfl rfl ?_
    refine q_getR hC (by decide) (by decide) rfl w_10 dX6_clear_1 (fun r1 => ?_)
    refine q_getsN hC (i := 2) (by decide) w_23 dX6_clear_4 ?_
    refine q_cNV hC hnt (stk := []) (as := [.ref r1, .ref 1002]) sX10_copyRow nX10_copyRow rfl w_24 w_26 w_27 w_25 (Nat.le_of_ble_eq_true rfl) dX6_clear_7 rfl ?_
    refine q_aload_n hC 0 dX6_clear_10 rfl rfl ?_
    refine q_iconst hC dX6_clear_11 rfl ?_
    refine q_putZ hC (by decide) (by decide) rfl rfl w_11 dX6_clear_12 ?_
    refine q_aload_n hC 0 dX6_clear_15 rfl rfl ?_
    refine q_getR hC (by decide) (by decide) rfl w_13 dX6_clear_16 (fun r2 => ?_)
    refine q_iconst hC dX6_clear_19 rfl ?_
    refine q_cNV hC hnt (stk := []) (as := [.ref r2, .int 0]) sX10_fill nX10_fill rfl w_197 w_199 w_27 w_198 (Nat.le_of_ble_eq_true rfl) dX6_clear_20 rfl ?_
    refine q_aload_n hC 0 dX6_clear_23 rfl rfl ?_
    refine q_getR hC (by decide) (by decide) rfl w_14 dX6_clear_24 (fun r3 => ?_)
    refine q_iconst hC dX6_clear_27 rfl ?_
    refine q_cNV hC hnt (stk := []) (as := [.ref r3, .int 0]) sX10_fill nX10_fill rfl w_197 w_199 w_27 w_198 (Nat.le_of_ble_eq_true rfl) dX6_clear_28 rfl ?_
    refine q_aload_n hC 0 dX6_clear_31 rfl rfl ?_
    refine q_iconst hC dX6_clear_32 rfl ?_
    refine q_putI hC (by decide) (by decide) rfl rfl w_16 dX6_clear_33 ?_
    exact q_vret hC dX6_clear_36 (Nat.le_of_ble_eq_true rfl) (Nat.le_of_ble_eq_true rfl)
  · exact c_no
theorem sX6_clear : Snd yX6_clear (.code yX6_clear cX6_clear 1 none) rmX6_clear SX6_clear := by
  refine Snd.of lX6_clear (by decide +kernel) (fun _ => rfl) ?_
  intro Γ hC hnt hnm J hJ L a
  match L with
  | 0 => exact pX6_clear_0 hC hnt J hJ a
  | L + 1 => exact c_no
/-! SpiritWall.cell([II)I -/
theorem dX10_cell_0 : decode cX10_cell 0 = .ok (.iload_n 1, 1) := by decide +kernel
theorem dX10_cell_1 : decode cX10_cell 1 = .ok (.ifCond .lt 15, 3) := by decide +kernel
theorem dX10_cell_4 : decode cX10_cell 4 = .ok (.iload_n 1, 1) := by decide +kernel
theorem dX10_cell_5 : decode cX10_cell 5 = .ok (.aload_n 0, 1) := by decide +kernel
theorem dX10_cell_6 : decode cX10_cell 6 = .ok (.arraylength, 1) := by decide +kernel
theorem dX10_cell_7 : decode cX10_cell 7 = .ok (.if_icmp .ge 9, 3) := by decide +kernel
theorem dX10_cell_10 : decode cX10_cell 10 = .ok (.aload_n 0, 1) := by decide +kernel
theorem dX10_cell_11 : decode cX10_cell 11 = .ok (.iload_n 1, 1) := by decide +kernel
theorem dX10_cell_12 : decode cX10_cell 12 = .ok (.iaload, 1) := by decide +kernel
theorem dX10_cell_13 : decode cX10_cell 13 = .ok (.goto 4, 3) := by decide +kernel
theorem dX10_cell_16 : decode cX10_cell 16 = .ok (.iconst 0, 1) := by decide +kernel
theorem dX10_cell_17 : decode cX10_cell 17 = .ok (.ireturn, 1) := by decide +kernel
def rmX10_cell : Room := rmk 6 0 0 150
theorem nX10_cell : nameOk yX10_cell 2 = true := by decide +kernel
def bX10_cell_0 (J : JT) : List Value → Sem
  | [.ref x0, .int x1] =>
    br (x1 < 0)
    (rI 0)
    (aL x0 fun v1 =>
    br (v1 ≤ x1)
    (rI 0)
    (aI x0 x1 fun v2 =>
    rI v2))
  | _ => no
def bX10_cell (J : JT) : JT := fun L a => match L with
  | 0 => bX10_cell_0 J a
  | _ => no
def SX10_cell : ST := mk 2 bX10_cell
def lX10_cell (L : Nat) (a : List Value) : Nat × Nat × Nat × List (Nat × Value) × List Value := match L with
  | 0 => (0, 0, 0, lv_args 0 a, [])
  | _ => (0, 0, 0, [], [])
theorem pX10_cell_0 {Γ : CT} (hC : Ctx Γ "SpiritWall" cX10_cell 2 (some .int) rmX10_cell) (hnt : NT Γ) (J : JT) (hJ : ∀ L a, Cor Γ 2 (lX10_cell L a).1 (lX10_cell L a).2.1 (lX10_cell L a).2.2.1 (lX10_cell L a).2.2.2.1 (lX10_cell L a).2.2.2.2 (J L a)) (a : List Value) : Cor Γ 2 0 0 0 (lv_args 0 a) [] (bX10_cell_0 J a) := by
  unfold bX10_cell_0
  split
  · rename_i x0 x1
    refine c_sub [0, 1] rfl (loc' := [(0, .ref x0), (1, .int x1)]) ?_
    refine q_iload_n hC 1 dX10_cell_0 rfl rfl ?_
    refine q_if_lt hC 16 dX10_cell_1 rfl ?_ ?_
    · refine q_iconst hC dX10_cell_16 rfl ?_
      exact q_iret hC dX10_cell_17 (Nat.le_of_ble_eq_true rfl) (Nat.le_of_ble_eq_true rfl)
    · refine q_iload_n hC 1 dX10_cell_4 rfl rfl ?_
      refine q_aload_n hC 0 dX10_cell_5 rfl rfl ?_
      refine q_alen hC dX10_cell_6 (fun v1 => ?_)
      refine q_ic_ge hC 16 dX10_cell_7 rfl ?_ ?_
      · refine q_iconst hC dX10_cell_16 rfl ?_
        exact q_iret hC dX10_cell_17 (Nat.le_of_ble_eq_true rfl) (Nat.le_of_ble_eq_true rfl)
      · refine q_aload_n hC 0 dX10_cell_10 rfl rfl ?_
        refine q_iload_n hC 1 dX10_cell_11 rfl rfl ?_
        refine q_iald hC dX10_cell_12 (fun v2 => ?_)
        refine q_goto hC 17 dX10_cell_13 rfl ?_
        exact q_iret hC dX10_cell_17 (Nat.le_of_ble_eq_true rfl) (Nat.le_of_ble_eq_true rfl)
  · exact c_no
theorem sX10_cell : Snd yX10_cell (.code yX10_cell cX10_cell 2 (some .int)) rmX10_cell SX10_cell := by
  refine Snd.of lX10_cell (by decide +kernel) (fun _ => rfl) ?_
  intro Γ hC hnt hnm J hJ L a
  match L with
  | 0 => exact pX10_cell_0 hC hnt J hJ a
  | L + 1 => exact c_no
/-! SpiritWall$Tokens.isBlank(I)Z -/
theorem dX8_isBlank_0 : decode cX8_isBlank 0 = .ok (.iload_n 0, 1) := by decide +kernel
theorem dX8_isBlank_1 : decode cX8_isBlank 1 = .ok (.bipush 32, 2) := by decide +kernel
theorem dX8_isBlank_3 : decode cX8_isBlank 3 = .ok (.if_icmp .eq 9, 3) := by decide +kernel
theorem dX8_isBlank_6 : decode cX8_isBlank 6 = .ok (.iload_n 0, 1) := by decide +kernel
theorem dX8_isBlank_7 : decode cX8_isBlank 7 = .ok (.bipush 10, 2) := by decide +kernel
theorem dX8_isBlank_9 : decode cX8_isBlank 9 = .ok (.if_icmp .ne 7, 3) := by decide +kernel
theorem dX8_isBlank_12 : decode cX8_isBlank 12 = .ok (.iconst 1, 1) := by decide +kernel
theorem dX8_isBlank_13 : decode cX8_isBlank 13 = .ok (.goto 4, 3) := by decide +kernel
theorem dX8_isBlank_16 : decode cX8_isBlank 16 = .ok (.iconst 0, 1) := by decide +kernel
theorem dX8_isBlank_17 : decode cX8_isBlank 17 = .ok (.ireturn, 1) := by decide +kernel
def rmX8_isBlank : Room := rmk 6 0 0 150
theorem nX8_isBlank : nameOk yX8_isBlank 1 = true := by decide +kernel
def bX8_isBlank_0 (J : JT) : List Value → Sem
  | [.int x0] =>
    br (x0 = (32 : Int32))
    (rZ 1)
    (br (x0 = (10 : Int32))
    (rZ 1)
    (rZ 0))
  | _ => no
def bX8_isBlank (J : JT) : JT := fun L a => match L with
  | 0 => bX8_isBlank_0 J a
  | _ => no
def SX8_isBlank : ST := mk 1 bX8_isBlank
def lX8_isBlank (L : Nat) (a : List Value) : Nat × Nat × Nat × List (Nat × Value) × List Value := match L with
  | 0 => (0, 0, 0, lv_args 0 a, [])
  | _ => (0, 0, 0, [], [])
theorem pX8_isBlank_0 {Γ : CT} (hC : Ctx Γ "SpiritWall$Tokens" cX8_isBlank 1 (some .boolean) rmX8_isBlank) (hnt : NT Γ) (J : JT) (hJ : ∀ L a, Cor Γ 1 (lX8_isBlank L a).1 (lX8_isBlank L a).2.1 (lX8_isBlank L a).2.2.1 (lX8_isBlank L a).2.2.2.1 (lX8_isBlank L a).2.2.2.2 (J L a)) (a : List Value) : Cor Γ 1 0 0 0 (lv_args 0 a) [] (bX8_isBlank_0 J a) := by
  unfold bX8_isBlank_0
  split
  · rename_i x0
    refine c_sub [0] rfl (loc' := [(0, .int x0)]) ?_
    refine q_iload_n hC 0 dX8_isBlank_0 rfl rfl ?_
    refine q_bipush hC (v := 32) dX8_isBlank_1 rfl ?_
    refine q_ic_eq hC 12 dX8_isBlank_3 rfl ?_ ?_
    · refine q_iconst hC dX8_isBlank_12 rfl ?_
      refine q_goto hC 17 dX8_isBlank_13 rfl ?_
      exact q_zret hC dX8_isBlank_17 (Nat.le_of_ble_eq_true rfl) (Nat.le_of_ble_eq_true rfl)
    · refine q_iload_n hC 0 dX8_isBlank_6 rfl rfl ?_
      refine q_bipush hC (v := 10) dX8_isBlank_7 rfl ?_
      refine q_ic_ne hC 16 dX8_isBlank_9 rfl ?_ ?_
      · refine q_iconst hC dX8_isBlank_16 rfl ?_
        exact q_zret hC dX8_isBlank_17 (Nat.le_of_ble_eq_true rfl) (Nat.le_of_ble_eq_true rfl)
      · refine q_iconst hC dX8_isBlank_12 rfl ?_
        refine q_goto hC 17 dX8_isBlank_13 rfl ?_
        exact q_zret hC dX8_isBlank_17 (Nat.le_of_ble_eq_true rfl) (Nat.le_of_ble_eq_true rfl)
  · exact c_no
theorem sX8_isBlank : Snd yX8_isBlank (.code yX8_isBlank cX8_isBlank 1 (some .boolean)) rmX8_isBlank SX8_isBlank := by
  refine Snd.of lX8_isBlank (by decide +kernel) (fun _ => rfl) ?_
  intro Γ hC hnt hnm J hJ L a
  match L with
  | 0 => exact pX8_isBlank_0 hC hnt J hJ a
  | L + 1 => exact c_no
/-! SpiritWall$Text.byteAt(I)I -/
theorem dX7_byteAt_0 : decode cX7_byteAt 0 = .ok (.iload_n 1, 1) := by decide +kernel
theorem dX7_byteAt_1 : decode cX7_byteAt 1 = .ok (.ifCond .lt 22, 3) := by decide +kernel
theorem dX7_byteAt_4 : decode cX7_byteAt 4 = .ok (.iload_n 1, 1) := by decide +kernel
theorem dX7_byteAt_5 : decode cX7_byteAt 5 = .ok (.aload_n 0, 1) := by decide +kernel
theorem dX7_byteAt_6 : decode cX7_byteAt 6 = .ok (.getfield 9, 3) := by decide +kernel
theorem dX7_byteAt_9 : decode cX7_byteAt 9 = .ok (.if_icmp .ge 14, 3) := by decide +kernel
theorem dX7_byteAt_12 : decode cX7_byteAt 12 = .ok (.aload_n 0, 1) := by decide +kernel
theorem dX7_byteAt_13 : decode cX7_byteAt 13 = .ok (.getfield 15, 3) := by decide +kernel
theorem dX7_byteAt_16 : decode cX7_byteAt 16 = .ok (.iload_n 1, 1) := by decide +kernel
theorem dX7_byteAt_17 : decode cX7_byteAt 17 = .ok (.invokestatic 19, 3) := by decide +kernel
theorem dX7_byteAt_20 : decode cX7_byteAt 20 = .ok (.goto 4, 3) := by decide +kernel
theorem dX7_byteAt_23 : decode cX7_byteAt 23 = .ok (.iconst (-1), 1) := by decide +kernel
theorem dX7_byteAt_24 : decode cX7_byteAt 24 = .ok (.ireturn, 1) := by decide +kernel
def rmX7_byteAt : Room := rmk 7 0 0 171
theorem nX7_byteAt : nameOk yX7_byteAt 1 = true := by decide +kernel
def bX7_byteAt_0 (J : JT) : List Value → Sem
  | [.ref x0, .int x1] =>
    br (x1 < 0)
    (rI (-1))
    (gI 7 1 x0 fun v1 =>
    br (v1 ≤ x1)
    (rI (-1))
    (gR 7 0 x0 fun r2 =>
    cI SX10_cell [.ref r2, .int x1] fun v3 =>
    rI v3))
  | _ => no
def bX7_byteAt (J : JT) : JT := fun L a => match L with
  | 0 => bX7_byteAt_0 J a
  | _ => no
def SX7_byteAt : ST := mk 2 bX7_byteAt
def lX7_byteAt (L : Nat) (a : List Value) : Nat × Nat × Nat × List (Nat × Value) × List Value := match L with
  | 0 => (0, 0, 0, lv_args 0 a, [])
  | _ => (0, 0, 0, [], [])
theorem pX7_byteAt_0 {Γ : CT} (hC : Ctx Γ "SpiritWall$Text" cX7_byteAt 2 (some .int) rmX7_byteAt) (hnt : NT Γ) (J : JT) (hJ : ∀ L a, Cor Γ 2 (lX7_byteAt L a).1 (lX7_byteAt L a).2.1 (lX7_byteAt L a).2.2.1 (lX7_byteAt L a).2.2.2.1 (lX7_byteAt L a).2.2.2.2 (J L a)) (a : List Value) : Cor Γ 2 0 0 0 (lv_args 0 a) [] (bX7_byteAt_0 J a) := by
  unfold bX7_byteAt_0
  split
  · rename_i x0 x1
    refine c_sub [0, 1] rfl (loc' := [(0, .ref x0), (1, .int x1)]) ?_
    refine q_iload_n hC 1 dX7_byteAt_0 rfl rfl ?_
    refine q_if_lt hC 23 dX7_byteAt_1 rfl ?_ ?_
    · refine q_iconst hC dX7_byteAt_23 rfl ?_
      exact q_iret hC dX7_byteAt_24 (Nat.le_of_ble_eq_true rfl) (Nat.le_of_ble_eq_true rfl)
    · refine q_iload_n hC 1 dX7_byteAt_4 rfl rfl ?_
      refine q_aload_n hC 0 dX7_byteAt_5 rfl rfl ?_
      refine q_getI hC (by decide) (by decide) rfl w_2 dX7_byteAt_6 (fun v1 => ?_)
      refine q_ic_ge hC 23 dX7_byteAt_9 rfl ?_ ?_
      · refine q_iconst hC dX7_byteAt_23 rfl ?_
        exact q_iret hC dX7_byteAt_24 (Nat.le_of_ble_eq_true rfl) (Nat.le_of_ble_eq_true rfl)
      · refine q_aload_n hC 0 dX7_byteAt_12 rfl rfl ?_
        refine q_getR hC (by decide) (by decide) rfl w_3 dX7_byteAt_13 (fun r2 => ?_)
        refine q_iload_n hC 1 dX7_byteAt_16 rfl rfl ?_
        refine q_cNI hC hnt (stk := []) (as := [.ref r2, .int x1]) sX10_cell nX10_cell rfl w_200 w_202 w_27 w_201 (Nat.le_of_ble_eq_true rfl) dX7_byteAt_17 rfl (fun v3 => ?_)
        refine q_goto hC 24 dX7_byteAt_20 rfl ?_
        exact q_iret hC dX7_byteAt_24 (Nat.le_of_ble_eq_true rfl) (Nat.le_of_ble_eq_true rfl)
  · exact c_no
theorem sX7_byteAt : Snd yX7_byteAt (.code yX7_byteAt cX7_byteAt 2 (some .int)) rmX7_byteAt SX7_byteAt := by
  refine Snd.of lX7_byteAt (by decide +kernel) (fun _ => rfl) ?_
  intro Γ hC hnt hnm J hJ L a
  match L with
  | 0 => exact pX7_byteAt_0 hC hnt J hJ a
  | L + 1 => exact c_no
/-! SpiritWall.isLetter(I)Z -/
theorem dX10_isLetter_0 : decode cX10_isLetter 0 = .ok (.iload_n 0, 1) := by decide +kernel
theorem dX10_isLetter_1 : decode cX10_isLetter 1 = .ok (.bipush 97, 2) := by decide +kernel
theorem dX10_isLetter_3 : decode cX10_isLetter 3 = .ok (.if_icmp .lt 13, 3) := by decide +kernel
theorem dX10_isLetter_6 : decode cX10_isLetter 6 = .ok (.iload_n 0, 1) := by decide +kernel
theorem dX10_isLetter_7 : decode cX10_isLetter 7 = .ok (.bipush 122, 2) := by decide +kernel
theorem dX10_isLetter_9 : decode cX10_isLetter 9 = .ok (.if_icmp .gt 7, 3) := by decide +kernel
theorem dX10_isLetter_12 : decode cX10_isLetter 12 = .ok (.iconst 1, 1) := by decide +kernel
theorem dX10_isLetter_13 : decode cX10_isLetter 13 = .ok (.goto 4, 3) := by decide +kernel
theorem dX10_isLetter_16 : decode cX10_isLetter 16 = .ok (.iconst 0, 1) := by decide +kernel
theorem dX10_isLetter_17 : decode cX10_isLetter 17 = .ok (.ireturn, 1) := by decide +kernel
def rmX10_isLetter : Room := rmk 6 0 0 150
theorem nX10_isLetter : nameOk yX10_isLetter 1 = true := by decide +kernel
def bX10_isLetter_0 (J : JT) : List Value → Sem
  | [.int x0] =>
    br (x0 < (97 : Int32))
    (rZ 0)
    (br ((122 : Int32) < x0)
    (rZ 0)
    (rZ 1))
  | _ => no
def bX10_isLetter (J : JT) : JT := fun L a => match L with
  | 0 => bX10_isLetter_0 J a
  | _ => no
def SX10_isLetter : ST := mk 1 bX10_isLetter
def lX10_isLetter (L : Nat) (a : List Value) : Nat × Nat × Nat × List (Nat × Value) × List Value := match L with
  | 0 => (0, 0, 0, lv_args 0 a, [])
  | _ => (0, 0, 0, [], [])
theorem pX10_isLetter_0 {Γ : CT} (hC : Ctx Γ "SpiritWall" cX10_isLetter 1 (some .boolean) rmX10_isLetter) (hnt : NT Γ) (J : JT) (hJ : ∀ L a, Cor Γ 1 (lX10_isLetter L a).1 (lX10_isLetter L a).2.1 (lX10_isLetter L a).2.2.1 (lX10_isLetter L a).2.2.2.1 (lX10_isLetter L a).2.2.2.2 (J L a)) (a : List Value) : Cor Γ 1 0 0 0 (lv_args 0 a) [] (bX10_isLetter_0 J a) := by
  unfold bX10_isLetter_0
  split
  · rename_i x0
    refine c_sub [0] rfl (loc' := [(0, .int x0)]) ?_
    refine q_iload_n hC 0 dX10_isLetter_0 rfl rfl ?_
    refine q_bipush hC (v := 97) dX10_isLetter_1 rfl ?_
    refine q_ic_lt hC 16 dX10_isLetter_3 rfl ?_ ?_
    · refine q_iconst hC dX10_isLetter_16 rfl ?_
      exact q_zret hC dX10_isLetter_17 (Nat.le_of_ble_eq_true rfl) (Nat.le_of_ble_eq_true rfl)
    · refine q_iload_n hC 0 dX10_isLetter_6 rfl rfl ?_
      refine q_bipush hC (v := 122) dX10_isLetter_7 rfl ?_
      refine q_ic_gt hC 16 dX10_isLetter_9 rfl ?_ ?_
      · refine q_iconst hC dX10_isLetter_16 rfl ?_
        exact q_zret hC dX10_isLetter_17 (Nat.le_of_ble_eq_true rfl) (Nat.le_of_ble_eq_true rfl)
      · refine q_iconst hC dX10_isLetter_12 rfl ?_
        refine q_goto hC 17 dX10_isLetter_13 rfl ?_
        exact q_zret hC dX10_isLetter_17 (Nat.le_of_ble_eq_true rfl) (Nat.le_of_ble_eq_true rfl)
  · exact c_no
theorem sX10_isLetter : Snd yX10_isLetter (.code yX10_isLetter cX10_isLetter 1 (some .boolean)) rmX10_isLetter SX10_isLetter := by
  refine Snd.of lX10_isLetter (by decide +kernel) (fun _ => rfl) ?_
  intro Γ hC hnt hnm J hJ L a
  match L with
  | 0 => exact pX10_isLetter_0 hC hnt J hJ a
  | L + 1 => exact c_no
/-! SpiritWall$Tokens.readWord()V -/
theorem dX8_readWord_0 : decode cX8_readWord 0 = .ok (.aload_n 0, 1) := by decide +kernel
theorem dX8_readWord_1 : decode cX8_readWord 1 = .ok (.iconst 0, 1) := by decide +kernel
theorem dX8_readWord_2 : decode cX8_readWord 2 = .ok (.putfield 21, 3) := by decide +kernel
theorem dX8_readWord_5 : decode cX8_readWord 5 = .ok (.aload_n 0, 1) := by decide +kernel
theorem dX8_readWord_6 : decode cX8_readWord 6 = .ok (.getfield 18, 3) := by decide +kernel
theorem dX8_readWord_9 : decode cX8_readWord 9 = .ok (.aload_n 0, 1) := by decide +kernel
theorem dX8_readWord_10 : decode cX8_readWord 10 = .ok (.getfield 27, 3) := by decide +kernel
theorem dX8_readWord_13 : decode cX8_readWord 13 = .ok (.getfield 64, 3) := by decide +kernel
theorem dX8_readWord_16 : decode cX8_readWord 16 = .ok (.if_icmp .ge 61, 3) := by decide +kernel
theorem dX8_readWord_19 : decode cX8_readWord 19 = .ok (.aload_n 0, 1) := by decide +kernel
theorem dX8_readWord_20 : decode cX8_readWord 20 = .ok (.getfield 27, 3) := by decide +kernel
theorem dX8_readWord_23 : decode cX8_readWord 23 = .ok (.getfield 68, 3) := by decide +kernel
theorem dX8_readWord_26 : decode cX8_readWord 26 = .ok (.aload_n 0, 1) := by decide +kernel
theorem dX8_readWord_27 : decode cX8_readWord 27 = .ok (.getfield 18, 3) := by decide +kernel
theorem dX8_readWord_30 : decode cX8_readWord 30 = .ok (.invokestatic 71, 3) := by decide +kernel
theorem dX8_readWord_33 : decode cX8_readWord 33 = .ok (.invokestatic 83, 3) := by decide +kernel
theorem dX8_readWord_36 : decode cX8_readWord 36 = .ok (.ifCond .eq 41, 3) := by decide +kernel
theorem dX8_readWord_39 : decode cX8_readWord 39 = .ok (.aload_n 0, 1) := by decide +kernel
theorem dX8_readWord_40 : decode cX8_readWord 40 = .ok (.aload_n 0, 1) := by decide +kernel
theorem dX8_readWord_41 : decode cX8_readWord 41 = .ok (.getfield 21, 3) := by decide +kernel
theorem dX8_readWord_44 : decode cX8_readWord 44 = .ok (.aload_n 0, 1) := by decide +kernel
theorem dX8_readWord_45 : decode cX8_readWord 45 = .ok (.getfield 27, 3) := by decide +kernel
theorem dX8_readWord_48 : decode cX8_readWord 48 = .ok (.getfield 68, 3) := by decide +kernel
theorem dX8_readWord_51 : decode cX8_readWord 51 = .ok (.aload_n 0, 1) := by decide +kernel
theorem dX8_readWord_52 : decode cX8_readWord 52 = .ok (.getfield 18, 3) := by decide +kernel
theorem dX8_readWord_55 : decode cX8_readWord 55 = .ok (.invokestatic 71, 3) := by decide +kernel
theorem dX8_readWord_58 : decode cX8_readWord 58 = .ok (.invokestatic 95, 3) := by decide +kernel
theorem dX8_readWord_61 : decode cX8_readWord 61 = .ok (.putfield 21, 3) := by decide +kernel
theorem dX8_readWord_64 : decode cX8_readWord 64 = .ok (.aload_n 0, 1) := by decide +kernel
theorem dX8_readWord_65 : decode cX8_readWord 65 = .ok (.dup, 1) := by decide +kernel
theorem dX8_readWord_66 : decode cX8_readWord 66 = .ok (.getfield 18, 3) := by decide +kernel
theorem dX8_readWord_69 : decode cX8_readWord 69 = .ok (.iconst 1, 1) := by decide +kernel
theorem dX8_readWord_70 : decode cX8_readWord 70 = .ok (.iadd, 1) := by decide +kernel
theorem dX8_readWord_71 : decode cX8_readWord 71 = .ok (.putfield 18, 3) := by decide +kernel
theorem dX8_readWord_74 : decode cX8_readWord 74 = .ok (.goto (-69), 3) := by decide +kernel
theorem dX8_readWord_77 : decode cX8_readWord 77 = .ok (.aload_n 0, 1) := by decide +kernel
theorem dX8_readWord_78 : decode cX8_readWord 78 = .ok (.aload_n 0, 1) := by decide +kernel
theorem dX8_readWord_79 : decode cX8_readWord 79 = .ok (.getfield 18, 3) := by decide +kernel
theorem dX8_readWord_82 : decode cX8_readWord 82 = .ok (.aload_n 0, 1) := by decide +kernel
theorem dX8_readWord_83 : decode cX8_readWord 83 = .ok (.getfield 15, 3) := by decide +kernel
theorem dX8_readWord_86 : decode cX8_readWord 86 = .ok (.isub, 1) := by decide +kernel
theorem dX8_readWord_87 : decode cX8_readWord 87 = .ok (.bipush 6, 2) := by decide +kernel
theorem dX8_readWord_89 : decode cX8_readWord 89 = .ok (.if_icmp .gt 8, 3) := by decide +kernel
theorem dX8_readWord_92 : decode cX8_readWord 92 = .ok (.bipush 11, 2) := by decide +kernel
theorem dX8_readWord_94 : decode cX8_readWord 94 = .ok (.goto 5, 3) := by decide +kernel
theorem dX8_readWord_97 : decode cX8_readWord 97 = .ok (.bipush 16, 2) := by decide +kernel
theorem dX8_readWord_99 : decode cX8_readWord 99 = .ok (.putfield 11, 3) := by decide +kernel
theorem dX8_readWord_102 : decode cX8_readWord 102 = .ok (.iconst 0, 1) := by decide +kernel
theorem dX8_readWord_103 : decode cX8_readWord 103 = .ok (.istore_n 1, 1) := by decide +kernel
theorem dX8_readWord_104 : decode cX8_readWord 104 = .ok (.iload_n 1, 1) := by decide +kernel
theorem dX8_readWord_105 : decode cX8_readWord 105 = .ok (.aload_n 0, 1) := by decide +kernel
theorem dX8_readWord_106 : decode cX8_readWord 106 = .ok (.getfield 57, 3) := by decide +kernel
theorem dX8_readWord_109 : decode cX8_readWord 109 = .ok (.arraylength, 1) := by decide +kernel
theorem dX8_readWord_110 : decode cX8_readWord 110 = .ok (.if_icmp .ge 36, 3) := by decide +kernel
theorem dX8_readWord_113 : decode cX8_readWord 113 = .ok (.aload_n 0, 1) := by decide +kernel
theorem dX8_readWord_114 : decode cX8_readWord 114 = .ok (.getfield 11, 3) := by decide +kernel
theorem dX8_readWord_117 : decode cX8_readWord 117 = .ok (.bipush 11, 2) := by decide +kernel
theorem dX8_readWord_119 : decode cX8_readWord 119 = .ok (.if_icmp .ne 27, 3) := by decide +kernel
theorem dX8_readWord_122 : decode cX8_readWord 122 = .ok (.aload_n 0, 1) := by decide +kernel
theorem dX8_readWord_123 : decode cX8_readWord 123 = .ok (.getfield 57, 3) := by decide +kernel
theorem dX8_readWord_126 : decode cX8_readWord 126 = .ok (.iload_n 1, 1) := by decide +kernel
theorem dX8_readWord_127 : decode cX8_readWord 127 = .ok (.iaload, 1) := by decide +kernel
theorem dX8_readWord_128 : decode cX8_readWord 128 = .ok (.aload_n 0, 1) := by decide +kernel
theorem dX8_readWord_129 : decode cX8_readWord 129 = .ok (.getfield 21, 3) := by decide +kernel
theorem dX8_readWord_132 : decode cX8_readWord 132 = .ok (.if_icmp .ne 8, 3) := by decide +kernel
theorem dX8_readWord_135 : decode cX8_readWord 135 = .ok (.aload_n 0, 1) := by decide +kernel
theorem dX8_readWord_136 : decode cX8_readWord 136 = .ok (.iload_n 1, 1) := by decide +kernel
theorem dX8_readWord_137 : decode cX8_readWord 137 = .ok (.putfield 11, 3) := by decide +kernel
theorem dX8_readWord_140 : decode cX8_readWord 140 = .ok (.iinc 1 1, 3) := by decide +kernel
theorem dX8_readWord_143 : decode cX8_readWord 143 = .ok (.goto (-39), 3) := by decide +kernel
theorem dX8_readWord_146 : decode cX8_readWord 146 = .ok (.return_, 1) := by decide +kernel
def rmX8_readWord : Room := rmk 7 0 0 171
theorem nX8_readWord : nameOk yX8_readWord 0 = true := by decide +kernel
def bX8_readWord_0 (J : JT) : List Value → Sem
  | [.ref x0] =>
    pI 8 5 x0 0 <|
    J 1 [.ref x0]
  | _ => no
def bX8_readWord_1 (J : JT) : List Value → Sem
  | [.ref x0] =>
    gI 8 4 x0 fun v1 =>
    gR 8 0 x0 fun r2 =>
    gI 7 1 r2 fun v3 =>
    br (v3 ≤ v1)
    (J 2 [.ref x0])
    (gR 8 0 x0 fun r4 =>
    gR 7 0 r4 fun r5 =>
    gI 8 4 x0 fun v6 =>
    cI SX10_cell [.ref r5, .int v6] fun v7 =>
    cI SX10_isLetter [.int v7] fun v8 =>
    br (v8 = 0)
    (J 2 [.ref x0])
    (gI 8 5 x0 fun v9 =>
    gR 8 0 x0 fun r10 =>
    gR 7 0 r10 fun r11 =>
    gI 8 4 x0 fun v12 =>
    cI SX10_cell [.ref r11, .int v12] fun v13 =>
    cI SX10_withLetter [.int v9, .int v13] fun v14 =>
    pI 8 5 x0 v14 <|
    gI 8 4 x0 fun v15 =>
    pI 8 4 x0 (v15 + 1) <|
    J 1 [.ref x0]))
  | _ => no
def bX8_readWord_2 (J : JT) : List Value → Sem
  | [.ref x0] =>
    gI 8 4 x0 fun v1 =>
    gI 8 3 x0 fun v2 =>
    br ((6 : Int32) < (v1 - v2))
    (pI 8 2 x0 16 <|
    J 3 [.ref x0, .int 0])
    (pI 8 2 x0 11 <|
    J 3 [.ref x0, .int 0])
  | _ => no
def bX8_readWord_3 (J : JT) : List Value → Sem
  | [.ref x0, .int x1] =>
    gR 8 1 x0 fun r1 =>
    aL r1 fun v2 =>
    br (v2 ≤ x1)
    (rV)
    (gI 8 2 x0 fun v3 =>
    br (v3 = (11 : Int32))
    (gR 8 1 x0 fun r4 =>
    aI r4 x1 fun v5 =>
    gI 8 5 x0 fun v6 =>
    br (v5 = v6)
    (pI 8 2 x0 x1 <|
    J 3 [.ref x0, .int (x1 + 1)])
    (J 3 [.ref x0, .int (x1 + 1)]))
    (rV))
  | _ => no
def bX8_readWord (J : JT) : JT := fun L a => match L with
  | 0 => bX8_readWord_0 J a
  | 1 => bX8_readWord_1 J a
  | 2 => bX8_readWord_2 J a
  | 3 => bX8_readWord_3 J a
  | _ => no
def SX8_readWord : ST := mk 2 bX8_readWord
def lX8_readWord (L : Nat) (a : List Value) : Nat × Nat × Nat × List (Nat × Value) × List Value := match L with
  | 0 => (0, 0, 0, lv_args 0 a, [])
  | 1 => (0, 0, 5, List.zip [0] a, [])
  | 2 => (0, 0, 77, List.zip [0] a, [])
  | 3 => (0, 0, 104, List.zip [0, 1] a, [])
  | _ => (0, 0, 0, [], [])
theorem pX8_readWord_0 {Γ : CT} (hC : Ctx Γ "SpiritWall$Tokens" cX8_readWord 2 none rmX8_readWord) (hnt : NT Γ) (J : JT) (hJ : ∀ L a, Cor Γ 2 (lX8_readWord L a).1 (lX8_readWord L a).2.1 (lX8_readWord L a).2.2.1 (lX8_readWord L a).2.2.2.1 (lX8_readWord L a).2.2.2.2 (J L a)) (a : List Value) : Cor Γ 2 0 0 0 (lv_args 0 a) [] (bX8_readWord_0 J a) := by
  unfold bX8_readWord_0
  split
  · rename_i x0
    refine c_sub [0] rfl (loc' := [(0, .ref x0)]) ?_
    refine q_aload_n hC 0 dX8_readWord_0 rfl rfl ?_
    refine q_iconst hC dX8_readWord_1 rfl ?_
    refine q_putI hC (by decide) (by decide) rfl rfl w_54 dX8_readWord_2 ?_
    exact c_sub [0] rfl (hJ 1 [.ref x0])
  · exact c_no
theorem pX8_readWord_1 {Γ : CT} (hC : Ctx Γ "SpiritWall$Tokens" cX8_readWord 2 none rmX8_readWord) (hnt : NT Γ) (J : JT) (hJ : ∀ L a, Cor Γ 2 (lX8_readWord L a).1 (lX8_readWord L a).2.1 (lX8_readWord L a).2.2.1 (lX8_readWord L a).2.2.2.1 (lX8_readWord L a).2.2.2.2 (J L a)) (a : List Value) : Cor Γ 2 0 0 5 (List.zip [0] a) [] (bX8_readWord_1 J a) := by
  unfold bX8_readWord_1
  split
  · rename_i x0
    refine c_sub [0] rfl (loc' := [(0, .ref x0)]) ?_
    refine q_aload_n hC 0 dX8_readWord_5 rfl rfl ?_
    refine q_getI hC (by decide) (by decide) rfl w_53 dX8_readWord_6 (fun v1 => ?_)
    refine q_aload_n hC 0 dX8_readWord_9 rfl rfl ?_
    refine q_getR hC (by decide) (by decide) rfl w_56 dX8_readWord_10 (fun r2 => ?_)
    refine q_getI hC (by decide) (by decide) rfl w_203 dX8_readWord_13 (fun v3 => ?_)
    refine q_ic_ge hC 77 dX8_readWord_16 rfl ?_ ?_
    · exact c_sub [0] rfl (hJ 2 [.ref x0])
    · refine q_aload_n hC 0 dX8_readWord_19 rfl rfl ?_
      refine q_getR hC (by decide) (by decide) rfl w_56 dX8_readWord_20 (fun r4 => ?_)
      refine q_getR hC (by decide) (by decide) rfl w_204 dX8_readWord_23 (fun r5 => ?_)
      refine q_aload_n hC 0 dX8_readWord_26 rfl rfl ?_
      refine q_getI hC (by decide) (by decide) rfl w_53 dX8_readWord_27 (fun v6 => ?_)
      refine q_cNI hC hnt (stk := []) (as := [.ref r5, .int v6]) sX10_cell nX10_cell rfl w_205 w_202 w_27 w_201 (Nat.le_of_ble_eq_true rfl) dX8_readWord_30 rfl (fun v7 => ?_)
      refine q_cNI hC hnt (stk := []) (as := [.int v7]) sX10_isLetter nX10_isLetter rfl w_206 w_208 w_27 w_207 (Nat.le_of_ble_eq_true rfl) dX8_readWord_33 rfl (fun v8 => ?_)
      refine q_if_eq hC 77 dX8_readWord_36 rfl ?_ ?_
      · exact c_sub [0] rfl (hJ 2 [.ref x0])
      · refine q_aload_n hC 0 dX8_readWord_39 rfl rfl ?_
        refine q_aload_n hC 0 dX8_readWord_40 rfl rfl ?_
        refine q_getI hC (by decide) (by decide) rfl w_54 dX8_readWord_41 (fun v9 => ?_)
        refine q_aload_n hC 0 dX8_readWord_44 rfl rfl ?_
        refine q_getR hC (by decide) (by decide) rfl w_56 dX8_readWord_45 (fun r10 => ?_)
        refine q_getR hC (by decide) (by decide) rfl w_204 dX8_readWord_48 (fun r11 => ?_)
        refine q_aload_n hC 0 dX8_readWord_51 rfl rfl ?_
        refine q_getI hC (by decide) (by decide) rfl w_53 dX8_readWord_52 (fun v12 => ?_)
        refine q_cNI hC hnt (stk := [.int v9, .ref x0]) (as := [.ref r11, .int v12]) sX10_cell nX10_cell rfl w_205 w_202 w_27 w_201 (Nat.le_of_ble_eq_true rfl) dX8_readWord_55 rfl (fun v13 => ?_)
        refine q_cNI hC hnt (stk := [.ref x0]) (as := [.int v9, .int v13]) sX10_withLetter nX10_withLetter rfl w_209 w_49 w_27 w_48 (Nat.le_of_ble_eq_true rfl) dX8_readWord_58 rfl (fun v14 => ?_)
        refine q_putI hC (by decide) (by decide) rfl rfl w_54 dX8_readWord_61 ?_
        refine q_aload_n hC 0 dX8_readWord_64 rfl rfl ?_
        refine q_dup hC dX8_readWord_65 ?_
        refine q_getI hC (by decide) (by decide) rfl w_53 dX8_readWord_66 (fun v15 => ?_)
        refine q_iconst hC dX8_readWord_69 rfl ?_
        refine q_iadd hC dX8_readWord_70 ?_
        refine q_putI hC (by decide) (by decide) rfl rfl w_53 dX8_readWord_71 ?_
        refine q_goto hC 5 dX8_readWord_74 rfl ?_
        exact c_sub [0] rfl (hJ 1 [.ref x0])
  · exact c_no
theorem pX8_readWord_2 {Γ : CT} (hC : Ctx Γ "SpiritWall$Tokens" cX8_readWord 2 none rmX8_readWord) (hnt : NT Γ) (J : JT) (hJ : ∀ L a, Cor Γ 2 (lX8_readWord L a).1 (lX8_readWord L a).2.1 (lX8_readWord L a).2.2.1 (lX8_readWord L a).2.2.2.1 (lX8_readWord L a).2.2.2.2 (J L a)) (a : List Value) : Cor Γ 2 0 0 77 (List.zip [0] a) [] (bX8_readWord_2 J a) := by
  unfold bX8_readWord_2
  split
  · rename_i x0
    refine c_sub [0] rfl (loc' := [(0, .ref x0)]) ?_
    refine q_aload_n hC 0 dX8_readWord_77 rfl rfl ?_
    refine q_aload_n hC 0 dX8_readWord_78 rfl rfl ?_
    refine q_getI hC (by decide) (by decide) rfl w_53 dX8_readWord_79 (fun v1 => ?_)
    refine q_aload_n hC 0 dX8_readWord_82 rfl rfl ?_
    refine q_getI hC (by decide) (by decide) rfl w_52 dX8_readWord_83 (fun v2 => ?_)
    refine q_isub hC dX8_readWord_86 ?_
    refine q_bipush hC (v := 6) dX8_readWord_87 rfl ?_
    refine q_ic_gt hC 97 dX8_readWord_89 rfl ?_ ?_
    · refine q_bipush hC (v := 16) dX8_readWord_97 rfl ?_
      refine q_putI hC (by decide) (by decide) rfl rfl w_51 dX8_readWord_99 ?_
      refine q_iconst hC dX8_readWord_102 rfl ?_
      refine q_istore_nA hC (loc' := [(1, .int 0), (0, .ref x0)]) dX8_readWord_103 rfl (Nat.le_of_ble_eq_true rfl) rfl ?_
      exact c_sub [1, 0] rfl (hJ 3 [.ref x0, .int 0])
    · refine q_bipush hC (v := 11) dX8_readWord_92 rfl ?_
      refine q_goto hC 99 dX8_readWord_94 rfl ?_
      refine q_putI hC (by decide) (by decide) rfl rfl w_51 dX8_readWord_99 ?_
      refine q_iconst hC dX8_readWord_102 rfl ?_
      refine q_istore_nA hC (loc' := [(1, .int 0), (0, .ref x0)]) dX8_readWord_103 rfl (Nat.le_of_ble_eq_true rfl) rfl ?_
      exact c_sub [1, 0] rfl (hJ 3 [.ref x0, .int 0])
  · exact c_no
theorem pX8_readWord_3 {Γ : CT} (hC : Ctx Γ "SpiritWall$Tokens" cX8_readWord 2 none rmX8_readWord) (hnt : NT Γ) (J : JT) (hJ : ∀ L a, Cor Γ 2 (lX8_readWord L a).1 (lX8_readWord L a).2.1 (lX8_readWord L a).2.2.1 (lX8_readWord L a).2.2.2.1 (lX8_readWord L a).2.2.2.2 (J L a)) (a : List Value) : Cor Γ 2 0 0 104 (List.zip [0, 1] a) [] (bX8_readWord_3 J a) := by
  unfold bX8_readWord_3
  split
  · rename_i x0 x1
    refine c_sub [0, 1] rfl (loc' := [(0, .ref x0), (1, .int x1)]) ?_
    refine q_iload_n hC 1 dX8_readWord_104 rfl rfl ?_
    refine q_aload_n hC 0 dX8_readWord_105 rfl rfl ?_
    refine q_getR hC (by decide) (by decide) rfl w_60 dX8_readWord_106 (fun r1 => ?_)
    refine q_alen hC dX8_readWord_109 (fun v2 => ?_)
    refine q_ic_ge hC 146 dX8_readWord_110 rfl ?_ ?_
    · exact q_vret hC dX8_readWord_146 (Nat.le_of_ble_eq_true rfl) (Nat.le_of_ble_eq_true rfl)
    · refine q_aload_n hC 0 dX8_readWord_113 rfl rfl ?_
      refine q_getI hC (by decide) (by decide) rfl w_51 dX8_readWord_114 (fun v3 => ?_)
      refine q_bipush hC (v := 11) dX8_readWord_117 rfl ?_
      refine q_ic_ne hC 146 dX8_readWord_119 rfl ?_ ?_
      · exact q_vret hC dX8_readWord_146 (Nat.le_of_ble_eq_true rfl) (Nat.le_of_ble_eq_true rfl)
      · refine q_aload_n hC 0 dX8_readWord_122 rfl rfl ?_
        refine q_getR hC (by decide) (by decide) rfl w_60 dX8_readWord_123 (fun r4 => ?_)
        refine q_iload_n hC 1 dX8_readWord_126 rfl rfl ?_
        refine q_iald hC dX8_readWord_127 (fun v5 => ?_)
        refine q_aload_n hC 0 dX8_readWord_128 rfl rfl ?_
        refine q_getI hC (by decide) (by decide) rfl w_54 dX8_readWord_129 (fun v6 => ?_)
        refine q_ic_ne hC 140 dX8_readWord_132 rfl ?_ ?_
        · refine q_iincA hC (loc' := [(1, .int (x1 + 1)), (0, .ref x0)]) 1 1 dX8_readWord_140 rfl rfl (Nat.le_of_ble_eq_true rfl) rfl ?_
          refine q_goto hC 104 dX8_readWord_143 rfl ?_
          exact c_sub [1, 0] rfl (hJ 3 [.ref x0, .int (x1 + 1)])
        · refine q_aload_n hC 0 dX8_readWord_135 rfl rfl ?_
          refine q_iload_n hC 1 dX8_readWord_136 rfl rfl ?_
          refine q_putI hC (by decide) (by decide) rfl rfl w_51 dX8_readWord_137 ?_
          refine q_iincA hC (loc' := [(1, .int (x1 + 1)), (0, .ref x0)]) 1 1 dX8_readWord_140 rfl rfl (Nat.le_of_ble_eq_true rfl) rfl ?_
          refine q_goto hC 104 dX8_readWord_143 rfl ?_
          exact c_sub [1, 0] rfl (hJ 3 [.ref x0, .int (x1 + 1)])
  · exact c_no
theorem sX8_readWord : Snd yX8_readWord (.code yX8_readWord cX8_readWord 2 none) rmX8_readWord SX8_readWord := by
  refine Snd.of lX8_readWord (by decide +kernel) (fun _ => rfl) ?_
  intro Γ hC hnt hnm J hJ L a
  match L with
  | 0 => exact pX8_readWord_0 hC hnt J hJ a
  | 1 => exact pX8_readWord_1 hC hnt J hJ a
  | 2 => exact pX8_readWord_2 hC hnt J hJ a
  | 3 => exact pX8_readWord_3 hC hnt J hJ a
  | L + 4 => exact c_no
/-! SpiritWall$Tokens.isDigit(I)Z -/
theorem dX8_isDigit_0 : decode cX8_isDigit 0 = .ok (.iload_n 0, 1) := by decide +kernel
theorem dX8_isDigit_1 : decode cX8_isDigit 1 = .ok (.bipush 48, 2) := by decide +kernel
theorem dX8_isDigit_3 : decode cX8_isDigit 3 = .ok (.if_icmp .lt 13, 3) := by decide +kernel
theorem dX8_isDigit_6 : decode cX8_isDigit 6 = .ok (.iload_n 0, 1) := by decide +kernel
theorem dX8_isDigit_7 : decode cX8_isDigit 7 = .ok (.bipush 57, 2) := by decide +kernel
theorem dX8_isDigit_9 : decode cX8_isDigit 9 = .ok (.if_icmp .gt 7, 3) := by decide +kernel
theorem dX8_isDigit_12 : decode cX8_isDigit 12 = .ok (.iconst 1, 1) := by decide +kernel
theorem dX8_isDigit_13 : decode cX8_isDigit 13 = .ok (.goto 4, 3) := by decide +kernel
theorem dX8_isDigit_16 : decode cX8_isDigit 16 = .ok (.iconst 0, 1) := by decide +kernel
theorem dX8_isDigit_17 : decode cX8_isDigit 17 = .ok (.ireturn, 1) := by decide +kernel
def rmX8_isDigit : Room := rmk 6 0 0 150
theorem nX8_isDigit : nameOk yX8_isDigit 1 = true := by decide +kernel
def bX8_isDigit_0 (J : JT) : List Value → Sem
  | [.int x0] =>
    br (x0 < (48 : Int32))
    (rZ 0)
    (br ((57 : Int32) < x0)
    (rZ 0)
    (rZ 1))
  | _ => no
def bX8_isDigit (J : JT) : JT := fun L a => match L with
  | 0 => bX8_isDigit_0 J a
  | _ => no
def SX8_isDigit : ST := mk 1 bX8_isDigit
def lX8_isDigit (L : Nat) (a : List Value) : Nat × Nat × Nat × List (Nat × Value) × List Value := match L with
  | 0 => (0, 0, 0, lv_args 0 a, [])
  | _ => (0, 0, 0, [], [])
theorem pX8_isDigit_0 {Γ : CT} (hC : Ctx Γ "SpiritWall$Tokens" cX8_isDigit 1 (some .boolean) rmX8_isDigit) (hnt : NT Γ) (J : JT) (hJ : ∀ L a, Cor Γ 1 (lX8_isDigit L a).1 (lX8_isDigit L a).2.1 (lX8_isDigit L a).2.2.1 (lX8_isDigit L a).2.2.2.1 (lX8_isDigit L a).2.2.2.2 (J L a)) (a : List Value) : Cor Γ 1 0 0 0 (lv_args 0 a) [] (bX8_isDigit_0 J a) := by
  unfold bX8_isDigit_0
  split
  · rename_i x0
    refine c_sub [0] rfl (loc' := [(0, .int x0)]) ?_
    refine q_iload_n hC 0 dX8_isDigit_0 rfl rfl ?_
    refine q_bipush hC (v := 48) dX8_isDigit_1 rfl ?_
    refine q_ic_lt hC 16 dX8_isDigit_3 rfl ?_ ?_
    · refine q_iconst hC dX8_isDigit_16 rfl ?_
      exact q_zret hC dX8_isDigit_17 (Nat.le_of_ble_eq_true rfl) (Nat.le_of_ble_eq_true rfl)
    · refine q_iload_n hC 0 dX8_isDigit_6 rfl rfl ?_
      refine q_bipush hC (v := 57) dX8_isDigit_7 rfl ?_
      refine q_ic_gt hC 16 dX8_isDigit_9 rfl ?_ ?_
      · refine q_iconst hC dX8_isDigit_16 rfl ?_
        exact q_zret hC dX8_isDigit_17 (Nat.le_of_ble_eq_true rfl) (Nat.le_of_ble_eq_true rfl)
      · refine q_iconst hC dX8_isDigit_12 rfl ?_
        refine q_goto hC 17 dX8_isDigit_13 rfl ?_
        exact q_zret hC dX8_isDigit_17 (Nat.le_of_ble_eq_true rfl) (Nat.le_of_ble_eq_true rfl)
  · exact c_no
theorem sX8_isDigit : Snd yX8_isDigit (.code yX8_isDigit cX8_isDigit 1 (some .boolean)) rmX8_isDigit SX8_isDigit := by
  refine Snd.of lX8_isDigit (by decide +kernel) (fun _ => rfl) ?_
  intro Γ hC hnt hnm J hJ L a
  match L with
  | 0 => exact pX8_isDigit_0 hC hnt J hJ a
  | L + 1 => exact c_no
/-! SpiritWall$Tokens.readNumber()V -/
theorem dX8_readNumber_0 : decode cX8_readNumber 0 = .ok (.aload_n 0, 1) := by decide +kernel
theorem dX8_readNumber_1 : decode cX8_readNumber 1 = .ok (.iconst 0, 1) := by decide +kernel
theorem dX8_readNumber_2 : decode cX8_readNumber 2 = .ok (.putfield 24, 3) := by decide +kernel
theorem dX8_readNumber_5 : decode cX8_readNumber 5 = .ok (.aload_n 0, 1) := by decide +kernel
theorem dX8_readNumber_6 : decode cX8_readNumber 6 = .ok (.getfield 18, 3) := by decide +kernel
theorem dX8_readNumber_9 : decode cX8_readNumber 9 = .ok (.aload_n 0, 1) := by decide +kernel
theorem dX8_readNumber_10 : decode cX8_readNumber 10 = .ok (.getfield 27, 3) := by decide +kernel
theorem dX8_readNumber_13 : decode cX8_readNumber 13 = .ok (.getfield 64, 3) := by decide +kernel
theorem dX8_readNumber_16 : decode cX8_readNumber 16 = .ok (.if_icmp .ge 65, 3) := by decide +kernel
theorem dX8_readNumber_19 : decode cX8_readNumber 19 = .ok (.aload_n 0, 1) := by decide +kernel
theorem dX8_readNumber_20 : decode cX8_readNumber 20 = .ok (.getfield 27, 3) := by decide +kernel
theorem dX8_readNumber_23 : decode cX8_readNumber 23 = .ok (.getfield 68, 3) := by decide +kernel
theorem dX8_readNumber_26 : decode cX8_readNumber 26 = .ok (.aload_n 0, 1) := by decide +kernel
theorem dX8_readNumber_27 : decode cX8_readNumber 27 = .ok (.getfield 18, 3) := by decide +kernel
theorem dX8_readNumber_30 : decode cX8_readNumber 30 = .ok (.invokestatic 71, 3) := by decide +kernel
theorem dX8_readNumber_33 : decode cX8_readNumber 33 = .ok (.invokestatic 89, 3) := by decide +kernel
theorem dX8_readNumber_36 : decode cX8_readNumber 36 = .ok (.ifCond .eq 45, 3) := by decide +kernel
theorem dX8_readNumber_39 : decode cX8_readNumber 39 = .ok (.aload_n 0, 1) := by decide +kernel
theorem dX8_readNumber_40 : decode cX8_readNumber 40 = .ok (.bipush 10, 2) := by decide +kernel
theorem dX8_readNumber_42 : decode cX8_readNumber 42 = .ok (.aload_n 0, 1) := by decide +kernel
theorem dX8_readNumber_43 : decode cX8_readNumber 43 = .ok (.getfield 24, 3) := by decide +kernel
theorem dX8_readNumber_46 : decode cX8_readNumber 46 = .ok (.imul, 1) := by decide +kernel
theorem dX8_readNumber_47 : decode cX8_readNumber 47 = .ok (.aload_n 0, 1) := by decide +kernel
theorem dX8_readNumber_48 : decode cX8_readNumber 48 = .ok (.getfield 27, 3) := by decide +kernel
theorem dX8_readNumber_51 : decode cX8_readNumber 51 = .ok (.getfield 68, 3) := by decide +kernel
theorem dX8_readNumber_54 : decode cX8_readNumber 54 = .ok (.aload_n 0, 1) := by decide +kernel
theorem dX8_readNumber_55 : decode cX8_readNumber 55 = .ok (.getfield 18, 3) := by decide +kernel
theorem dX8_readNumber_58 : decode cX8_readNumber 58 = .ok (.invokestatic 71, 3) := by decide +kernel
theorem dX8_readNumber_61 : decode cX8_readNumber 61 = .ok (.iadd, 1) := by decide +kernel
theorem dX8_readNumber_62 : decode cX8_readNumber 62 = .ok (.bipush 48, 2) := by decide +kernel
theorem dX8_readNumber_64 : decode cX8_readNumber 64 = .ok (.isub, 1) := by decide +kernel
theorem dX8_readNumber_65 : decode cX8_readNumber 65 = .ok (.putfield 24, 3) := by decide +kernel
theorem dX8_readNumber_68 : decode cX8_readNumber 68 = .ok (.aload_n 0, 1) := by decide +kernel
theorem dX8_readNumber_69 : decode cX8_readNumber 69 = .ok (.dup, 1) := by decide +kernel
theorem dX8_readNumber_70 : decode cX8_readNumber 70 = .ok (.getfield 18, 3) := by decide +kernel
theorem dX8_readNumber_73 : decode cX8_readNumber 73 = .ok (.iconst 1, 1) := by decide +kernel
theorem dX8_readNumber_74 : decode cX8_readNumber 74 = .ok (.iadd, 1) := by decide +kernel
theorem dX8_readNumber_75 : decode cX8_readNumber 75 = .ok (.putfield 18, 3) := by decide +kernel
theorem dX8_readNumber_78 : decode cX8_readNumber 78 = .ok (.goto (-73), 3) := by decide +kernel
theorem dX8_readNumber_81 : decode cX8_readNumber 81 = .ok (.aload_n 0, 1) := by decide +kernel
theorem dX8_readNumber_82 : decode cX8_readNumber 82 = .ok (.aload_n 0, 1) := by decide +kernel
theorem dX8_readNumber_83 : decode cX8_readNumber 83 = .ok (.getfield 18, 3) := by decide +kernel
theorem dX8_readNumber_86 : decode cX8_readNumber 86 = .ok (.aload_n 0, 1) := by decide +kernel
theorem dX8_readNumber_87 : decode cX8_readNumber 87 = .ok (.getfield 15, 3) := by decide +kernel
theorem dX8_readNumber_90 : decode cX8_readNumber 90 = .ok (.isub, 1) := by decide +kernel
theorem dX8_readNumber_91 : decode cX8_readNumber 91 = .ok (.iconst 5, 1) := by decide +kernel
theorem dX8_readNumber_92 : decode cX8_readNumber 92 = .ok (.if_icmp .gt 8, 3) := by decide +kernel
theorem dX8_readNumber_95 : decode cX8_readNumber 95 = .ok (.bipush 12, 2) := by decide +kernel
theorem dX8_readNumber_97 : decode cX8_readNumber 97 = .ok (.goto 5, 3) := by decide +kernel
theorem dX8_readNumber_100 : decode cX8_readNumber 100 = .ok (.bipush 16, 2) := by decide +kernel
theorem dX8_readNumber_102 : decode cX8_readNumber 102 = .ok (.putfield 11, 3) := by decide +kernel
theorem dX8_readNumber_105 : decode cX8_readNumber 105 = .ok (.return_, 1) := by decide +kernel
def rmX8_readNumber : Room := rmk 7 0 0 171
theorem nX8_readNumber : nameOk yX8_readNumber 0 = true := by decide +kernel
def bX8_readNumber_0 (J : JT) : List Value → Sem
  | [.ref x0] =>
    pI 8 6 x0 0 <|
    J 1 [.ref x0]
  | _ => no
def bX8_readNumber_1 (J : JT) : List Value → Sem
  | [.ref x0] =>
    gI 8 4 x0 fun v1 =>
    gR 8 0 x0 fun r2 =>
    gI 7 1 r2 fun v3 =>
    br (v3 ≤ v1)
    (J 2 [.ref x0])
    (gR 8 0 x0 fun r4 =>
    gR 7 0 r4 fun r5 =>
    gI 8 4 x0 fun v6 =>
    cI SX10_cell [.ref r5, .int v6] fun v7 =>
    cI SX8_isDigit [.int v7] fun v8 =>
    br (v8 = 0)
    (J 2 [.ref x0])
    (gI 8 6 x0 fun v9 =>
    gR 8 0 x0 fun r10 =>
    gR 7 0 r10 fun r11 =>
    gI 8 4 x0 fun v12 =>
    cI SX10_cell [.ref r11, .int v12] fun v13 =>
    pI 8 6 x0 (((10 * v9) + v13) - 48) <|
    gI 8 4 x0 fun v14 =>
    pI 8 4 x0 (v14 + 1) <|
    J 1 [.ref x0]))
  | _ => no
def bX8_readNumber_2 (J : JT) : List Value → Sem
  | [.ref x0] =>
    gI 8 4 x0 fun v1 =>
    gI 8 3 x0 fun v2 =>
    br ((5 : Int32) < (v1 - v2))
    (pI 8 2 x0 16 <|
    rV)
    (pI 8 2 x0 12 <|
    rV)
  | _ => no
def bX8_readNumber (J : JT) : JT := fun L a => match L with
  | 0 => bX8_readNumber_0 J a
  | 1 => bX8_readNumber_1 J a
  | 2 => bX8_readNumber_2 J a
  | _ => no
def SX8_readNumber : ST := mk 1 bX8_readNumber
def lX8_readNumber (L : Nat) (a : List Value) : Nat × Nat × Nat × List (Nat × Value) × List Value := match L with
  | 0 => (0, 0, 0, lv_args 0 a, [])
  | 1 => (0, 0, 5, List.zip [0] a, [])
  | 2 => (0, 0, 81, List.zip [0] a, [])
  | _ => (0, 0, 0, [], [])
theorem pX8_readNumber_0 {Γ : CT} (hC : Ctx Γ "SpiritWall$Tokens" cX8_readNumber 1 none rmX8_readNumber) (hnt : NT Γ) (J : JT) (hJ : ∀ L a, Cor Γ 1 (lX8_readNumber L a).1 (lX8_readNumber L a).2.1 (lX8_readNumber L a).2.2.1 (lX8_readNumber L a).2.2.2.1 (lX8_readNumber L a).2.2.2.2 (J L a)) (a : List Value) : Cor Γ 1 0 0 0 (lv_args 0 a) [] (bX8_readNumber_0 J a) := by
  unfold bX8_readNumber_0
  split
  · rename_i x0
    refine c_sub [0] rfl (loc' := [(0, .ref x0)]) ?_
    refine q_aload_n hC 0 dX8_readNumber_0 rfl rfl ?_
    refine q_iconst hC dX8_readNumber_1 rfl ?_
    refine q_putI hC (by decide) (by decide) rfl rfl w_55 dX8_readNumber_2 ?_
    exact c_sub [0] rfl (hJ 1 [.ref x0])
  · exact c_no
theorem pX8_readNumber_1 {Γ : CT} (hC : Ctx Γ "SpiritWall$Tokens" cX8_readNumber 1 none rmX8_readNumber) (hnt : NT Γ) (J : JT) (hJ : ∀ L a, Cor Γ 1 (lX8_readNumber L a).1 (lX8_readNumber L a).2.1 (lX8_readNumber L a).2.2.1 (lX8_readNumber L a).2.2.2.1 (lX8_readNumber L a).2.2.2.2 (J L a)) (a : List Value) : Cor Γ 1 0 0 5 (List.zip [0] a) [] (bX8_readNumber_1 J a) := by
  unfold bX8_readNumber_1
  split
  · rename_i x0
    refine c_sub [0] rfl (loc' := [(0, .ref x0)]) ?_
    refine q_aload_n hC 0 dX8_readNumber_5 rfl rfl ?_
    refine q_getI hC (by decide) (by decide) rfl w_53 dX8_readNumber_6 (fun v1 => ?_)
    refine q_aload_n hC 0 dX8_readNumber_9 rfl rfl ?_
    refine q_getR hC (by decide) (by decide) rfl w_56 dX8_readNumber_10 (fun r2 => ?_)
    refine q_getI hC (by decide) (by decide) rfl w_203 dX8_readNumber_13 (fun v3 => ?_)
    refine q_ic_ge hC 81 dX8_readNumber_16 rfl ?_ ?_
    · exact c_sub [0] rfl (hJ 2 [.ref x0])
    · refine q_aload_n hC 0 dX8_readNumber_19 rfl rfl ?_
      refine q_getR hC (by decide) (by decide) rfl w_56 dX8_readNumber_20 (fun r4 => ?_)
      refine q_getR hC (by decide) (by decide) rfl w_204 dX8_readNumber_23 (fun r5 => ?_)
      refine q_aload_n hC 0 dX8_readNumber_26 rfl rfl ?_
      refine q_getI hC (by decide) (by decide) rfl w_53 dX8_readNumber_27 (fun v6 => ?_)
      refine q_cNI hC hnt (stk := []) (as := [.ref r5, .int v6]) sX10_cell nX10_cell rfl w_205 w_202 w_27 w_201 (Nat.le_of_ble_eq_true rfl) dX8_readNumber_30 rfl (fun v7 => ?_)
      refine q_cSI hC hnt (stk := []) (as := [.int v7]) sX8_isDigit nX8_isDigit rfl w_210 w_212 w_76 w_211 (Nat.le_of_ble_eq_true rfl) dX8_readNumber_33 rfl (fun v8 => ?_)
      refine q_if_eq hC 81 dX8_readNumber_36 rfl ?_ ?_
      · exact c_sub [0] rfl (hJ 2 [.ref x0])
      · refine q_aload_n hC 0 dX8_readNumber_39 rfl rfl ?_
        refine q_bipush hC (v := 10) dX8_readNumber_40 rfl ?_
        refine q_aload_n hC 0 dX8_readNumber_42 rfl rfl ?_
        refine q_getI hC (by decide) (by decide) rfl w_55 dX8_readNumber_43 (fun v9 => ?_)
        refine q_imul hC dX8_readNumber_46 ?_
        refine q_aload_n hC 0 dX8_readNumber_47 rfl rfl ?_
        refine q_getR hC (by decide) (by decide) rfl w_56 dX8_readNumber_48 (fun r10 => ?_)
        refine q_getR hC (by decide) (by decide) rfl w_204 dX8_readNumber_51 (fun r11 => ?_)
        refine q_aload_n hC 0 dX8_readNumber_54 rfl rfl ?_
        refine q_getI hC (by decide) (by decide) rfl w_53 dX8_readNumber_55 (fun v12 => ?_)
        refine q_cNI hC hnt (stk := [.int (10 * v9), .ref x0]) (as := [.ref r11, .int v12]) sX10_cell nX10_cell rfl w_205 w_202 w_27 w_201 (Nat.le_of_ble_eq_true rfl) dX8_readNumber_58 rfl (fun v13 => ?_)
        refine q_iadd hC dX8_readNumber_61 ?_
        refine q_bipush hC (v := 48) dX8_readNumber_62 rfl ?_
        refine q_isub hC dX8_readNumber_64 ?_
        refine q_putI hC (by decide) (by decide) rfl rfl w_55 dX8_readNumber_65 ?_
        refine q_aload_n hC 0 dX8_readNumber_68 rfl rfl ?_
        refine q_dup hC dX8_readNumber_69 ?_
        refine q_getI hC (by decide) (by decide) rfl w_53 dX8_readNumber_70 (fun v14 => ?_)
        refine q_iconst hC dX8_readNumber_73 rfl ?_
        refine q_iadd hC dX8_readNumber_74 ?_
        refine q_putI hC (by decide) (by decide) rfl rfl w_53 dX8_readNumber_75 ?_
        refine q_goto hC 5 dX8_readNumber_78 rfl ?_
        exact c_sub [0] rfl (hJ 1 [.ref x0])
  · exact c_no
theorem pX8_readNumber_2 {Γ : CT} (hC : Ctx Γ "SpiritWall$Tokens" cX8_readNumber 1 none rmX8_readNumber) (hnt : NT Γ) (J : JT) (hJ : ∀ L a, Cor Γ 1 (lX8_readNumber L a).1 (lX8_readNumber L a).2.1 (lX8_readNumber L a).2.2.1 (lX8_readNumber L a).2.2.2.1 (lX8_readNumber L a).2.2.2.2 (J L a)) (a : List Value) : Cor Γ 1 0 0 81 (List.zip [0] a) [] (bX8_readNumber_2 J a) := by
  unfold bX8_readNumber_2
  split
  · rename_i x0
    refine c_sub [0] rfl (loc' := [(0, .ref x0)]) ?_
    refine q_aload_n hC 0 dX8_readNumber_81 rfl rfl ?_
    refine q_aload_n hC 0 dX8_readNumber_82 rfl rfl ?_
    refine q_getI hC (by decide) (by decide) rfl w_53 dX8_readNumber_83 (fun v1 => ?_)
    refine q_aload_n hC 0 dX8_readNumber_86 rfl rfl ?_
    refine q_getI hC (by decide) (by decide) rfl w_52 dX8_readNumber_87 (fun v2 => ?_)
    refine q_isub hC dX8_readNumber_90 ?_
    refine q_iconst hC dX8_readNumber_91 rfl ?_
    refine q_ic_gt hC 100 dX8_readNumber_92 rfl ?_ ?_
    · refine q_bipush hC (v := 16) dX8_readNumber_100 rfl ?_
      refine q_putI hC (by decide) (by decide) rfl rfl w_51 dX8_readNumber_102 ?_
      exact q_vret hC dX8_readNumber_105 (Nat.le_of_ble_eq_true rfl) (Nat.le_of_ble_eq_true rfl)
    · refine q_bipush hC (v := 12) dX8_readNumber_95 rfl ?_
      refine q_goto hC 102 dX8_readNumber_97 rfl ?_
      refine q_putI hC (by decide) (by decide) rfl rfl w_51 dX8_readNumber_102 ?_
      exact q_vret hC dX8_readNumber_105 (Nat.le_of_ble_eq_true rfl) (Nat.le_of_ble_eq_true rfl)
  · exact c_no
theorem sX8_readNumber : Snd yX8_readNumber (.code yX8_readNumber cX8_readNumber 1 none) rmX8_readNumber SX8_readNumber := by
  refine Snd.of lX8_readNumber (by decide +kernel) (fun _ => rfl) ?_
  intro Γ hC hnt hnm J hJ L a
  match L with
  | 0 => exact pX8_readNumber_0 hC hnt J hJ a
  | 1 => exact pX8_readNumber_1 hC hnt J hJ a
  | 2 => exact pX8_readNumber_2 hC hnt J hJ a
  | L + 3 => exact c_no
/-! SpiritWall$Tokens.advance()V -/
theorem dX8_advance_0 : decode cX8_advance 0 = .ok (.aload_n 0, 1) := by decide +kernel
theorem dX8_advance_1 : decode cX8_advance 1 = .ok (.aload_n 0, 1) := by decide +kernel
theorem dX8_advance_2 : decode cX8_advance 2 = .ok (.getfield 18, 3) := by decide +kernel
theorem dX8_advance_5 : decode cX8_advance 5 = .ok (.putfield 15, 3) := by decide +kernel
theorem dX8_advance_8 : decode cX8_advance 8 = .ok (.aload_n 0, 1) := by decide +kernel
theorem dX8_advance_9 : decode cX8_advance 9 = .ok (.getfield 15, 3) := by decide +kernel
theorem dX8_advance_12 : decode cX8_advance 12 = .ok (.aload_n 0, 1) := by decide +kernel
theorem dX8_advance_13 : decode cX8_advance 13 = .ok (.getfield 27, 3) := by decide +kernel
theorem dX8_advance_16 : decode cX8_advance 16 = .ok (.getfield 64, 3) := by decide +kernel
theorem dX8_advance_19 : decode cX8_advance 19 = .ok (.if_icmp .ge 36, 3) := by decide +kernel
theorem dX8_advance_22 : decode cX8_advance 22 = .ok (.aload_n 0, 1) := by decide +kernel
theorem dX8_advance_23 : decode cX8_advance 23 = .ok (.getfield 27, 3) := by decide +kernel
theorem dX8_advance_26 : decode cX8_advance 26 = .ok (.getfield 68, 3) := by decide +kernel
theorem dX8_advance_29 : decode cX8_advance 29 = .ok (.aload_n 0, 1) := by decide +kernel
theorem dX8_advance_30 : decode cX8_advance 30 = .ok (.getfield 15, 3) := by decide +kernel
theorem dX8_advance_33 : decode cX8_advance 33 = .ok (.invokestatic 71, 3) := by decide +kernel
theorem dX8_advance_36 : decode cX8_advance 36 = .ok (.invokestatic 75, 3) := by decide +kernel
theorem dX8_advance_39 : decode cX8_advance 39 = .ok (.ifCond .eq 16, 3) := by decide +kernel
theorem dX8_advance_42 : decode cX8_advance 42 = .ok (.aload_n 0, 1) := by decide +kernel
theorem dX8_advance_43 : decode cX8_advance 43 = .ok (.dup, 1) := by decide +kernel
theorem dX8_advance_44 : decode cX8_advance 44 = .ok (.getfield 15, 3) := by decide +kernel
theorem dX8_advance_47 : decode cX8_advance 47 = .ok (.iconst 1, 1) := by decide +kernel
theorem dX8_advance_48 : decode cX8_advance 48 = .ok (.iadd, 1) := by decide +kernel
theorem dX8_advance_49 : decode cX8_advance 49 = .ok (.putfield 15, 3) := by decide +kernel
theorem dX8_advance_52 : decode cX8_advance 52 = .ok (.goto (-44), 3) := by decide +kernel
theorem dX8_advance_55 : decode cX8_advance 55 = .ok (.aload_n 0, 1) := by decide +kernel
theorem dX8_advance_56 : decode cX8_advance 56 = .ok (.aload_n 0, 1) := by decide +kernel
theorem dX8_advance_57 : decode cX8_advance 57 = .ok (.getfield 15, 3) := by decide +kernel
theorem dX8_advance_60 : decode cX8_advance 60 = .ok (.putfield 18, 3) := by decide +kernel
theorem dX8_advance_63 : decode cX8_advance 63 = .ok (.aload_n 0, 1) := by decide +kernel
theorem dX8_advance_64 : decode cX8_advance 64 = .ok (.getfield 27, 3) := by decide +kernel
theorem dX8_advance_67 : decode cX8_advance 67 = .ok (.aload_n 0, 1) := by decide +kernel
theorem dX8_advance_68 : decode cX8_advance 68 = .ok (.getfield 15, 3) := by decide +kernel
theorem dX8_advance_71 : decode cX8_advance 71 = .ok (.invokevirtual 79, 3) := by decide +kernel
theorem dX8_advance_74 : decode cX8_advance 74 = .ok (.istore_n 1, 1) := by decide +kernel
theorem dX8_advance_75 : decode cX8_advance 75 = .ok (.iload_n 1, 1) := by decide +kernel
theorem dX8_advance_76 : decode cX8_advance 76 = .ok (.invokestatic 83, 3) := by decide +kernel
theorem dX8_advance_79 : decode cX8_advance 79 = .ok (.ifCond .eq 10, 3) := by decide +kernel
theorem dX8_advance_82 : decode cX8_advance 82 = .ok (.aload_n 0, 1) := by decide +kernel
theorem dX8_advance_83 : decode cX8_advance 83 = .ok (.invokevirtual 86, 3) := by decide +kernel
theorem dX8_advance_86 : decode cX8_advance 86 = .ok (.goto 69, 3) := by decide +kernel
theorem dX8_advance_89 : decode cX8_advance 89 = .ok (.iload_n 1, 1) := by decide +kernel
theorem dX8_advance_90 : decode cX8_advance 90 = .ok (.invokestatic 89, 3) := by decide +kernel
theorem dX8_advance_93 : decode cX8_advance 93 = .ok (.ifCond .eq 10, 3) := by decide +kernel
theorem dX8_advance_96 : decode cX8_advance 96 = .ok (.aload_n 0, 1) := by decide +kernel
theorem dX8_advance_97 : decode cX8_advance 97 = .ok (.invokevirtual 92, 3) := by decide +kernel
theorem dX8_advance_100 : decode cX8_advance 100 = .ok (.goto 55, 3) := by decide +kernel
theorem dX8_advance_103 : decode cX8_advance 103 = .ok (.iload_n 1, 1) := by decide +kernel
theorem dX8_advance_104 : decode cX8_advance 104 = .ok (.iconst (-1), 1) := by decide +kernel
theorem dX8_advance_105 : decode cX8_advance 105 = .ok (.if_icmp .ne 12, 3) := by decide +kernel
theorem dX8_advance_108 : decode cX8_advance 108 = .ok (.aload_n 0, 1) := by decide +kernel
theorem dX8_advance_109 : decode cX8_advance 109 = .ok (.bipush 15, 2) := by decide +kernel
theorem dX8_advance_111 : decode cX8_advance 111 = .ok (.putfield 11, 3) := by decide +kernel
theorem dX8_advance_114 : decode cX8_advance 114 = .ok (.goto 41, 3) := by decide +kernel
theorem dX8_advance_117 : decode cX8_advance 117 = .ok (.aload_n 0, 1) := by decide +kernel
theorem dX8_advance_118 : decode cX8_advance 118 = .ok (.iload_n 1, 1) := by decide +kernel
theorem dX8_advance_119 : decode cX8_advance 119 = .ok (.bipush 45, 2) := by decide +kernel
theorem dX8_advance_121 : decode cX8_advance 121 = .ok (.if_icmp .ne 8, 3) := by decide +kernel
theorem dX8_advance_124 : decode cX8_advance 124 = .ok (.bipush 13, 2) := by decide +kernel
theorem dX8_advance_126 : decode cX8_advance 126 = .ok (.goto 16, 3) := by decide +kernel
theorem dX8_advance_129 : decode cX8_advance 129 = .ok (.iload_n 1, 1) := by decide +kernel
theorem dX8_advance_130 : decode cX8_advance 130 = .ok (.bipush 59, 2) := by decide +kernel
theorem dX8_advance_132 : decode cX8_advance 132 = .ok (.if_icmp .ne 8, 3) := by decide +kernel
theorem dX8_advance_135 : decode cX8_advance 135 = .ok (.bipush 14, 2) := by decide +kernel
theorem dX8_advance_137 : decode cX8_advance 137 = .ok (.goto 5, 3) := by decide +kernel
theorem dX8_advance_140 : decode cX8_advance 140 = .ok (.bipush 16, 2) := by decide +kernel
theorem dX8_advance_142 : decode cX8_advance 142 = .ok (.putfield 11, 3) := by decide +kernel
theorem dX8_advance_145 : decode cX8_advance 145 = .ok (.aload_n 0, 1) := by decide +kernel
theorem dX8_advance_146 : decode cX8_advance 146 = .ok (.dup, 1) := by decide +kernel
theorem dX8_advance_147 : decode cX8_advance 147 = .ok (.getfield 18, 3) := by decide +kernel
theorem dX8_advance_150 : decode cX8_advance 150 = .ok (.iconst 1, 1) := by decide +kernel
theorem dX8_advance_151 : decode cX8_advance 151 = .ok (.iadd, 1) := by decide +kernel
theorem dX8_advance_152 : decode cX8_advance 152 = .ok (.putfield 18, 3) := by decide +kernel
theorem dX8_advance_155 : decode cX8_advance 155 = .ok (.return_, 1) := by decide +kernel
def rmX8_advance : Room := rmk 8 0 0 192
theorem nX8_advance : nameOk yX8_advance 0 = true := by decide +kernel
def bX8_advance_0 (J : JT) : List Value → Sem
  | [.ref x0] =>
    gI 8 4 x0 fun v1 =>
    pI 8 3 x0 v1 <|
    J 1 [.ref x0]
  | _ => no
def bX8_advance_1 (J : JT) : List Value → Sem
  | [.ref x0] =>
    gI 8 3 x0 fun v1 =>
    gR 8 0 x0 fun r2 =>
    gI 7 1 r2 fun v3 =>
    br (v3 ≤ v1)
    (J 2 [.ref x0])
    (gR 8 0 x0 fun r4 =>
    gR 7 0 r4 fun r5 =>
    gI 8 3 x0 fun v6 =>
    cI SX10_cell [.ref r5, .int v6] fun v7 =>
    cI SX8_isBlank [.int v7] fun v8 =>
    br (v8 = 0)
    (J 2 [.ref x0])
    (gI 8 3 x0 fun v9 =>
    pI 8 3 x0 (v9 + 1) <|
    J 1 [.ref x0]))
  | _ => no
def bX8_advance_2 (J : JT) : List Value → Sem
  | [.ref x0] =>
    gI 8 3 x0 fun v1 =>
    pI 8 4 x0 v1 <|
    gR 8 0 x0 fun r2 =>
    gI 8 3 x0 fun v3 =>
    ob 7 r2 (cI SX7_byteAt [.ref r2, .int v3] fun v4 =>
    cI SX10_isLetter [.int v4] fun v5 =>
    br (v5 = 0)
    (cI SX8_isDigit [.int v4] fun v6 =>
    br (v6 = 0)
    (br (v4 = ((-1) : Int32))
    (pI 8 2 x0 15 <|
    rV)
    (br (v4 = (45 : Int32))
    (pI 8 2 x0 13 <|
    gI 8 4 x0 fun v9 =>
    pI 8 4 x0 (v9 + 1) <|
    rV)
    (br (v4 = (59 : Int32))
    (pI 8 2 x0 14 <|
    gI 8 4 x0 fun v8 =>
    pI 8 4 x0 (v8 + 1) <|
    rV)
    (pI 8 2 x0 16 <|
    gI 8 4 x0 fun v7 =>
    pI 8 4 x0 (v7 + 1) <|
    rV))))
    (ob 8 x0 (cV SX8_readNumber [.ref x0] <|
    rV)))
    (ob 8 x0 (cV SX8_readWord [.ref x0] <|
    rV)))
  | _ => no
def bX8_advance (J : JT) : JT := fun L a => match L with
  | 0 => bX8_advance_0 J a
  | 1 => bX8_advance_1 J a
  | 2 => bX8_advance_2 J a
  | _ => no
def SX8_advance : ST := mk 2 bX8_advance
def lX8_advance (L : Nat) (a : List Value) : Nat × Nat × Nat × List (Nat × Value) × List Value := match L with
  | 0 => (0, 0, 0, lv_args 0 a, [])
  | 1 => (0, 0, 8, List.zip [0] a, [])
  | 2 => (0, 0, 55, List.zip [0] a, [])
  | _ => (0, 0, 0, [], [])
theorem pX8_advance_0 {Γ : CT} (hC : Ctx Γ "SpiritWall$Tokens" cX8_advance 2 none rmX8_advance) (hnt : NT Γ) (J : JT) (hJ : ∀ L a, Cor Γ 2 (lX8_advance L a).1 (lX8_advance L a).2.1 (lX8_advance L a).2.2.1 (lX8_advance L a).2.2.2.1 (lX8_advance L a).2.2.2.2 (J L a)) (a : List Value) : Cor Γ 2 0 0 0 (lv_args 0 a) [] (bX8_advance_0 J a) := by
  unfold bX8_advance_0
  split
  · rename_i x0
    refine c_sub [0] rfl (loc' := [(0, .ref x0)]) ?_
    refine q_aload_n hC 0 dX8_advance_0 rfl rfl ?_
    refine q_aload_n hC 0 dX8_advance_1 rfl rfl ?_
    refine q_getI hC (by decide) (by decide) rfl w_53 dX8_advance_2 (fun v1 => ?_)
    refine q_putI hC (by decide) (by decide) rfl rfl w_52 dX8_advance_5 ?_
    exact c_sub [0] rfl (hJ 1 [.ref x0])
  · exact c_no
theorem pX8_advance_1 {Γ : CT} (hC : Ctx Γ "SpiritWall$Tokens" cX8_advance 2 none rmX8_advance) (hnt : NT Γ) (J : JT) (hJ : ∀ L a, Cor Γ 2 (lX8_advance L a).1 (lX8_advance L a).2.1 (lX8_advance L a).2.2.1 (lX8_advance L a).2.2.2.1 (lX8_advance L a).2.2.2.2 (J L a)) (a : List Value) : Cor Γ 2 0 0 8 (List.zip [0] a) [] (bX8_advance_1 J a) := by
  unfold bX8_advance_1
  split
  · rename_i x0
    refine c_sub [0] rfl (loc' := [(0, .ref x0)]) ?_
    refine q_aload_n hC 0 dX8_advance_8 rfl rfl ?_
    refine q_getI hC (by decide) (by decide) rfl w_52 dX8_advance_9 (fun v1 => ?_)
    refine q_aload_n hC 0 dX8_advance_12 rfl rfl ?_
    refine q_getR hC (by decide) (by decide) rfl w_56 dX8_advance_13 (fun r2 => ?_)
    refine q_getI hC (by decide) (by decide) rfl w_203 dX8_advance_16 (fun v3 => ?_)
    refine q_ic_ge hC 55 dX8_advance_19 rfl ?_ ?_
    · exact c_sub [0] rfl (hJ 2 [.ref x0])
    · refine q_aload_n hC 0 dX8_advance_22 rfl rfl ?_
      refine q_getR hC (by decide) (by decide) rfl w_56 dX8_advance_23 (fun r4 => ?_)
      refine q_getR hC (by decide) (by decide) rfl w_204 dX8_advance_26 (fun r5 => ?_)
      refine q_aload_n hC 0 dX8_advance_29 rfl rfl ?_
      refine q_getI hC (by decide) (by decide) rfl w_52 dX8_advance_30 (fun v6 => ?_)
      refine q_cNI hC hnt (stk := []) (as := [.ref r5, .int v6]) sX10_cell nX10_cell rfl w_205 w_202 w_27 w_201 (Nat.le_of_ble_eq_true rfl) dX8_advance_33 rfl (fun v7 => ?_)
      refine q_cSI hC hnt (stk := []) (as := [.int v7]) sX8_isBlank nX8_isBlank rfl w_213 w_215 w_76 w_214 (Nat.le_of_ble_eq_true rfl) dX8_advance_36 rfl (fun v8 => ?_)
      refine q_if_eq hC 55 dX8_advance_39 rfl ?_ ?_
      · exact c_sub [0] rfl (hJ 2 [.ref x0])
      · refine q_aload_n hC 0 dX8_advance_42 rfl rfl ?_
        refine q_dup hC dX8_advance_43 ?_
        refine q_getI hC (by decide) (by decide) rfl w_52 dX8_advance_44 (fun v9 => ?_)
        refine q_iconst hC dX8_advance_47 rfl ?_
        refine q_iadd hC dX8_advance_48 ?_
        refine q_putI hC (by decide) (by decide) rfl rfl w_52 dX8_advance_49 ?_
        refine q_goto hC 8 dX8_advance_52 rfl ?_
        exact c_sub [0] rfl (hJ 1 [.ref x0])
  · exact c_no
theorem pX8_advance_2 {Γ : CT} (hC : Ctx Γ "SpiritWall$Tokens" cX8_advance 2 none rmX8_advance) (hnt : NT Γ) (J : JT) (hJ : ∀ L a, Cor Γ 2 (lX8_advance L a).1 (lX8_advance L a).2.1 (lX8_advance L a).2.2.1 (lX8_advance L a).2.2.2.1 (lX8_advance L a).2.2.2.2 (J L a)) (a : List Value) : Cor Γ 2 0 0 55 (List.zip [0] a) [] (bX8_advance_2 J a) := by
  unfold bX8_advance_2
  split
  · rename_i x0
    refine c_sub [0] rfl (loc' := [(0, .ref x0)]) ?_
    refine q_aload_n hC 0 dX8_advance_55 rfl rfl ?_
    refine q_aload_n hC 0 dX8_advance_56 rfl rfl ?_
    refine q_getI hC (by decide) (by decide) rfl w_52 dX8_advance_57 (fun v1 => ?_)
    refine q_putI hC (by decide) (by decide) rfl rfl w_53 dX8_advance_60 ?_
    refine q_aload_n hC 0 dX8_advance_63 rfl rfl ?_
    refine q_getR hC (by decide) (by decide) rfl w_56 dX8_advance_64 (fun r2 => ?_)
    refine q_aload_n hC 0 dX8_advance_67 rfl rfl ?_
    refine q_getI hC (by decide) (by decide) rfl w_52 dX8_advance_68 (fun v3 => ?_)
    refine q_cVI hC hnt (stk := []) (as := [.int v3]) sX7_byteAt (ci := 7) (by decide) rfl nX7_byteAt rfl w_216 w_218 w_219 w_127 w_217 (Nat.le_of_ble_eq_true rfl) dX8_advance_71 rfl (fun v4 => ?_)
    refine q_istore_nA hC (loc' := [(1, .int v4), (0, .ref x0)]) dX8_advance_74 rfl (Nat.le_of_ble_eq_true rfl) rfl ?_
    refine q_iload_n hC 0 dX8_advance_75 rfl rfl ?_
    refine q_cNI hC hnt (stk := []) (as := [.int v4]) sX10_isLetter nX10_isLetter rfl w_206 w_208 w_27 w_207 (Nat.le_of_ble_eq_true rfl) dX8_advance_76 rfl (fun v5 => ?_)
    refine q_if_eq hC 89 dX8_advance_79 rfl ?_ ?_
    · refine q_iload_n hC 0 dX8_advance_89 rfl rfl ?_
      refine q_cSI hC hnt (stk := []) (as := [.int v4]) sX8_isDigit nX8_isDigit rfl w_210 w_212 w_76 w_211 (Nat.le_of_ble_eq_true rfl) dX8_advance_90 rfl (fun v6 => ?_)
      refine q_if_eq hC 103 dX8_advance_93 rfl ?_ ?_
      · refine q_iload_n hC 0 dX8_advance_103 rfl rfl ?_
        refine q_iconst hC dX8_advance_104 rfl ?_
        refine q_ic_ne hC 117 dX8_advance_105 rfl ?_ ?_
        · refine q_aload_n hC 1 dX8_advance_117 rfl rfl ?_
          refine q_iload_n hC 0 dX8_advance_118 rfl rfl ?_
          refine q_bipush hC (v := 45) dX8_advance_119 rfl ?_
          refine q_ic_ne hC 129 dX8_advance_121 rfl ?_ ?_
          · refine q_iload_n hC 0 dX8_advance_129 rfl rfl ?_
            refine q_bipush hC (v := 59) dX8_advance_130 rfl ?_
            refine q_ic_ne hC 140 dX8_advance_132 rfl ?_ ?_
            · refine q_bipush hC (v := 16) dX8_advance_140 rfl ?_
              refine q_putI hC (by decide) (by decide) rfl rfl w_51 dX8_advance_142 ?_
              refine q_aload_n hC 1 dX8_advance_145 rfl rfl ?_
              refine q_dup hC dX8_advance_146 ?_
              refine q_getI hC (by decide) (by decide) rfl w_53 dX8_advance_147 (fun v7 => ?_)
              refine q_iconst hC dX8_advance_150 rfl ?_
              refine q_iadd hC dX8_advance_151 ?_
              refine q_putI hC (by decide) (by decide) rfl rfl w_53 dX8_advance_152 ?_
              exact q_vret hC dX8_advance_155 (Nat.le_of_ble_eq_true rfl) (Nat.le_of_ble_eq_true rfl)
            · refine q_bipush hC (v := 14) dX8_advance_135 rfl ?_
              refine q_goto hC 142 dX8_advance_137 rfl ?_
              refine q_putI hC (by decide) (by decide) rfl rfl w_51 dX8_advance_142 ?_
              refine q_aload_n hC 1 dX8_advance_145 rfl rfl ?_
              refine q_dup hC dX8_advance_146 ?_
              refine q_getI hC (by decide) (by decide) rfl w_53 dX8_advance_147 (fun v8 => ?_)
              refine q_iconst hC dX8_advance_150 rfl ?_
              refine q_iadd hC dX8_advance_151 ?_
              refine q_putI hC (by decide) (by decide) rfl rfl w_53 dX8_advance_152 ?_
              exact q_vret hC dX8_advance_155 (Nat.le_of_ble_eq_true rfl) (Nat.le_of_ble_eq_true rfl)
          · refine q_bipush hC (v := 13) dX8_advance_124 rfl ?_
            refine q_goto hC 142 dX8_advance_126 rfl ?_
            refine q_putI hC (by decide) (by decide) rfl rfl w_51 dX8_advance_142 ?_
            refine q_aload_n hC 1 dX8_advance_145 rfl rfl ?_
            refine q_dup hC dX8_advance_146 ?_
            refine q_getI hC (by decide) (by decide) rfl w_53 dX8_advance_147 (fun v9 => ?_)
            refine q_iconst hC dX8_advance_150 rfl ?_
            refine q_iadd hC dX8_advance_151 ?_
            refine q_putI hC (by decide) (by decide) rfl rfl w_53 dX8_advance_152 ?_
            exact q_vret hC dX8_advance_155 (Nat.le_of_ble_eq_true rfl) (Nat.le_of_ble_eq_true rfl)
        · refine q_aload_n hC 1 dX8_advance_108 rfl rfl ?_
          refine q_bipush hC (v := 15) dX8_advance_109 rfl ?_
          refine q_putI hC (by decide) (by decide) rfl rfl w_51 dX8_advance_111 ?_
          refine q_goto hC 155 dX8_advance_114 rfl ?_
          exact q_vret hC dX8_advance_155 (Nat.le_of_ble_eq_true rfl) (Nat.le_of_ble_eq_true rfl)
      · refine q_aload_n hC 1 dX8_advance_96 rfl rfl ?_
        refine q_cVV hC hnt (stk := []) (as := []) sX8_readNumber (ci := 8) (by decide) rfl nX8_readNumber rfl w_220 w_222 w_223 w_76 w_221 (Nat.le_of_ble_eq_true rfl) dX8_advance_97 rfl ?_
        refine q_goto hC 155 dX8_advance_100 rfl ?_
        exact q_vret hC dX8_advance_155 (Nat.le_of_ble_eq_true rfl) (Nat.le_of_ble_eq_true rfl)
    · refine q_aload_n hC 1 dX8_advance_82 rfl rfl ?_
      refine q_cVV hC hnt (stk := []) (as := []) sX8_readWord (ci := 8) (by decide) rfl nX8_readWord rfl w_224 w_226 w_227 w_76 w_225 (Nat.le_of_ble_eq_true rfl) dX8_advance_83 rfl ?_
      refine q_goto hC 155 dX8_advance_86 rfl ?_
      exact q_vret hC dX8_advance_155 (Nat.le_of_ble_eq_true rfl) (Nat.le_of_ble_eq_true rfl)
  · exact c_no
theorem sX8_advance : Snd yX8_advance (.code yX8_advance cX8_advance 2 none) rmX8_advance SX8_advance := by
  refine Snd.of lX8_advance (by decide +kernel) (fun _ => rfl) ?_
  intro Γ hC hnt hnm J hJ L a
  match L with
  | 0 => exact pX8_advance_0 hC hnt J hJ a
  | 1 => exact pX8_advance_1 hC hnt J hJ a
  | 2 => exact pX8_advance_2 hC hnt J hJ a
  | L + 3 => exact c_no
/-! SpiritWall$Tokens.restart()V -/
theorem dX8_restart_0 : decode cX8_restart 0 = .ok (.aload_n 0, 1) := by decide +kernel
theorem dX8_restart_1 : decode cX8_restart 1 = .ok (.iconst 0, 1) := by decide +kernel
theorem dX8_restart_2 : decode cX8_restart 2 = .ok (.putfield 18, 3) := by decide +kernel
theorem dX8_restart_5 : decode cX8_restart 5 = .ok (.aload_n 0, 1) := by decide +kernel
theorem dX8_restart_6 : decode cX8_restart 6 = .ok (.invokevirtual 61, 3) := by decide +kernel
theorem dX8_restart_9 : decode cX8_restart 9 = .ok (.return_, 1) := by decide +kernel
def rmX8_restart : Room := rmk 9 0 0 213
theorem nX8_restart : nameOk yX8_restart 0 = true := by decide +kernel
def bX8_restart_0 (J : JT) : List Value → Sem
  | [.ref x0] =>
    pI 8 4 x0 0 <|
    ob 8 x0 (cV SX8_advance [.ref x0] <|
    rV)
  | _ => no
def bX8_restart (J : JT) : JT := fun L a => match L with
  | 0 => bX8_restart_0 J a
  | _ => no
def SX8_restart : ST := mk 1 bX8_restart
def lX8_restart (L : Nat) (a : List Value) : Nat × Nat × Nat × List (Nat × Value) × List Value := match L with
  | 0 => (0, 0, 0, lv_args 0 a, [])
  | _ => (0, 0, 0, [], [])
theorem pX8_restart_0 {Γ : CT} (hC : Ctx Γ "SpiritWall$Tokens" cX8_restart 1 none rmX8_restart) (hnt : NT Γ) (J : JT) (hJ : ∀ L a, Cor Γ 1 (lX8_restart L a).1 (lX8_restart L a).2.1 (lX8_restart L a).2.2.1 (lX8_restart L a).2.2.2.1 (lX8_restart L a).2.2.2.2 (J L a)) (a : List Value) : Cor Γ 1 0 0 0 (lv_args 0 a) [] (bX8_restart_0 J a) := by
  unfold bX8_restart_0
  split
  · rename_i x0
    refine c_sub [0] rfl (loc' := [(0, .ref x0)]) ?_
    refine q_aload_n hC 0 dX8_restart_0 rfl rfl ?_
    refine q_iconst hC dX8_restart_1 rfl ?_
    refine q_putI hC (by decide) (by decide) rfl rfl w_53 dX8_restart_2 ?_
    refine q_aload_n hC 0 dX8_restart_5 rfl rfl ?_
    refine q_cVV hC hnt (stk := []) (as := []) sX8_advance (ci := 8) (by decide) rfl nX8_advance rfl w_228 w_230 w_231 w_76 w_229 (Nat.le_of_ble_eq_true rfl) dX8_restart_6 rfl ?_
    exact q_vret hC dX8_restart_9 (Nat.le_of_ble_eq_true rfl) (Nat.le_of_ble_eq_true rfl)
  · exact c_no
theorem sX8_restart : Snd yX8_restart (.code yX8_restart cX8_restart 1 none) rmX8_restart SX8_restart := by
  refine Snd.of lX8_restart (by decide +kernel) (fun _ => rfl) ?_
  intro Γ hC hnt hnm J hJ L a
  match L with
  | 0 => exact pX8_restart_0 hC hnt J hJ a
  | L + 1 => exact c_no
/-! SpiritWall$Reader.fail(I)Z -/
theorem dX5_fail_0 : decode cX5_fail 0 = .ok (.aload_n 0, 1) := by decide +kernel
theorem dX5_fail_1 : decode cX5_fail 1 = .ok (.iload_n 1, 1) := by decide +kernel
theorem dX5_fail_2 : decode cX5_fail 2 = .ok (.putfield 29, 3) := by decide +kernel
theorem dX5_fail_5 : decode cX5_fail 5 = .ok (.aload_n 0, 1) := by decide +kernel
theorem dX5_fail_6 : decode cX5_fail 6 = .ok (.aload_n 0, 1) := by decide +kernel
theorem dX5_fail_7 : decode cX5_fail 7 = .ok (.getfield 44, 3) := by decide +kernel
theorem dX5_fail_10 : decode cX5_fail 10 = .ok (.getfield 71, 3) := by decide +kernel
theorem dX5_fail_13 : decode cX5_fail 13 = .ok (.putfield 33, 3) := by decide +kernel
theorem dX5_fail_16 : decode cX5_fail 16 = .ok (.iconst 0, 1) := by decide +kernel
theorem dX5_fail_17 : decode cX5_fail 17 = .ok (.ireturn, 1) := by decide +kernel
def rmX5_fail : Room := rmk 6 0 0 150
theorem nX5_fail : nameOk yX5_fail 1 = true := by decide +kernel
def bX5_fail_0 (J : JT) : List Value → Sem
  | [.ref x0, .int x1] =>
    pI 5 4 x0 x1 <|
    gR 5 0 x0 fun r1 =>
    gI 8 3 r1 fun v2 =>
    pI 5 5 x0 v2 <|
    rZ 0
  | _ => no
def bX5_fail (J : JT) : JT := fun L a => match L with
  | 0 => bX5_fail_0 J a
  | _ => no
def SX5_fail : ST := mk 2 bX5_fail
def lX5_fail (L : Nat) (a : List Value) : Nat × Nat × Nat × List (Nat × Value) × List Value := match L with
  | 0 => (0, 0, 0, lv_args 0 a, [])
  | _ => (0, 0, 0, [], [])
theorem pX5_fail_0 {Γ : CT} (hC : Ctx Γ "SpiritWall$Reader" cX5_fail 2 (some .boolean) rmX5_fail) (hnt : NT Γ) (J : JT) (hJ : ∀ L a, Cor Γ 2 (lX5_fail L a).1 (lX5_fail L a).2.1 (lX5_fail L a).2.2.1 (lX5_fail L a).2.2.2.1 (lX5_fail L a).2.2.2.2 (J L a)) (a : List Value) : Cor Γ 2 0 0 0 (lv_args 0 a) [] (bX5_fail_0 J a) := by
  unfold bX5_fail_0
  split
  · rename_i x0 x1
    refine c_sub [0, 1] rfl (loc' := [(0, .ref x0), (1, .int x1)]) ?_
    refine q_aload_n hC 0 dX5_fail_0 rfl rfl ?_
    refine q_iload_n hC 1 dX5_fail_1 rfl rfl ?_
    refine q_putI hC (by decide) (by decide) rfl rfl w_70 dX5_fail_2 ?_
    refine q_aload_n hC 0 dX5_fail_5 rfl rfl ?_
    refine q_aload_n hC 0 dX5_fail_6 rfl rfl ?_
    refine q_getR hC (by decide) (by decide) rfl w_77 dX5_fail_7 (fun r1 => ?_)
    refine q_getI hC (by decide) (by decide) rfl w_232 dX5_fail_10 (fun v2 => ?_)
    refine q_putI hC (by decide) (by decide) rfl rfl w_71 dX5_fail_13 ?_
    refine q_iconst hC dX5_fail_16 rfl ?_
    exact q_zret hC dX5_fail_17 (Nat.le_of_ble_eq_true rfl) (Nat.le_of_ble_eq_true rfl)
  · exact c_no
theorem sX5_fail : Snd yX5_fail (.code yX5_fail cX5_fail 2 (some .boolean)) rmX5_fail SX5_fail := by
  refine Snd.of lX5_fail (by decide +kernel) (fun _ => rfl) ?_
  intro Γ hC hnt hnm J hJ L a
  match L with
  | 0 => exact pX5_fail_0 hC hnt J hJ a
  | L + 1 => exact c_no
/-! SpiritWall$Wall.markWith([II)I -/
theorem dX9_markWith_0 : decode cX9_markWith 0 = .ok (.iconst 0, 1) := by decide +kernel
theorem dX9_markWith_1 : decode cX9_markWith 1 = .ok (.istore_n 3, 1) := by decide +kernel
theorem dX9_markWith_2 : decode cX9_markWith 2 = .ok (.iload_n 3, 1) := by decide +kernel
theorem dX9_markWith_3 : decode cX9_markWith 3 = .ok (.aload_n 0, 1) := by decide +kernel
theorem dX9_markWith_4 : decode cX9_markWith 4 = .ok (.getfield 9, 3) := by decide +kernel
theorem dX9_markWith_7 : decode cX9_markWith 7 = .ok (.if_icmp .ge 20, 3) := by decide +kernel
theorem dX9_markWith_10 : decode cX9_markWith 10 = .ok (.aload_n 1, 1) := by decide +kernel
theorem dX9_markWith_11 : decode cX9_markWith 11 = .ok (.iload_n 3, 1) := by decide +kernel
theorem dX9_markWith_12 : decode cX9_markWith 12 = .ok (.invokestatic 30, 3) := by decide +kernel
theorem dX9_markWith_15 : decode cX9_markWith 15 = .ok (.iload_n 2, 1) := by decide +kernel
theorem dX9_markWith_16 : decode cX9_markWith 16 = .ok (.if_icmp .ne 5, 3) := by decide +kernel
theorem dX9_markWith_19 : decode cX9_markWith 19 = .ok (.iload_n 3, 1) := by decide +kernel
theorem dX9_markWith_20 : decode cX9_markWith 20 = .ok (.ireturn, 1) := by decide +kernel
theorem dX9_markWith_21 : decode cX9_markWith 21 = .ok (.iinc 3 1, 3) := by decide +kernel
theorem dX9_markWith_24 : decode cX9_markWith 24 = .ok (.goto (-22), 3) := by decide +kernel
theorem dX9_markWith_27 : decode cX9_markWith 27 = .ok (.iconst (-1), 1) := by decide +kernel
theorem dX9_markWith_28 : decode cX9_markWith 28 = .ok (.ireturn, 1) := by decide +kernel
def rmX9_markWith : Room := rmk 7 0 0 171
theorem nX9_markWith : nameOk yX9_markWith 2 = true := by decide +kernel
def bX9_markWith_0 (J : JT) : List Value → Sem
  | [.ref x0, .ref x1, .int x2] =>
    J 1 [.ref x0, .ref x1, .int x2, .int 0]
  | _ => no
def bX9_markWith_1 (J : JT) : List Value → Sem
  | [.ref x0, .ref x1, .int x2, .int x3] =>
    gI 9 0 x0 fun v1 =>
    br (v1 ≤ x3)
    (rI (-1))
    (cI SX10_cell [.ref x1, .int x3] fun v2 =>
    br (v2 = x2)
    (rI x3)
    (J 1 [.ref x0, .ref x1, .int x2, .int (x3 + 1)]))
  | _ => no
def bX9_markWith (J : JT) : JT := fun L a => match L with
  | 0 => bX9_markWith_0 J a
  | 1 => bX9_markWith_1 J a
  | _ => no
def SX9_markWith : ST := mk 4 bX9_markWith
def lX9_markWith (L : Nat) (a : List Value) : Nat × Nat × Nat × List (Nat × Value) × List Value := match L with
  | 0 => (0, 0, 0, lv_args 0 a, [])
  | 1 => (0, 0, 2, List.zip [0, 1, 2, 3] a, [])
  | _ => (0, 0, 0, [], [])
theorem pX9_markWith_0 {Γ : CT} (hC : Ctx Γ "SpiritWall$Wall" cX9_markWith 4 (some .int) rmX9_markWith) (hnt : NT Γ) (J : JT) (hJ : ∀ L a, Cor Γ 4 (lX9_markWith L a).1 (lX9_markWith L a).2.1 (lX9_markWith L a).2.2.1 (lX9_markWith L a).2.2.2.1 (lX9_markWith L a).2.2.2.2 (J L a)) (a : List Value) : Cor Γ 4 0 0 0 (lv_args 0 a) [] (bX9_markWith_0 J a) := by
  unfold bX9_markWith_0
  split
  · rename_i x0 x1 x2
    refine c_sub [0, 1, 2] rfl (loc' := [(0, .ref x0), (1, .ref x1), (2, .int x2)]) ?_
    refine q_iconst hC dX9_markWith_0 rfl ?_
    refine q_istore_nA hC (loc' := [(3, .int 0), (0, .ref x0), (1, .ref x1), (2, .int x2)]) dX9_markWith_1 rfl (Nat.le_of_ble_eq_true rfl) rfl ?_
    exact c_sub [1, 2, 3, 0] rfl (hJ 1 [.ref x0, .ref x1, .int x2, .int 0])
  · exact c_no
theorem pX9_markWith_1 {Γ : CT} (hC : Ctx Γ "SpiritWall$Wall" cX9_markWith 4 (some .int) rmX9_markWith) (hnt : NT Γ) (J : JT) (hJ : ∀ L a, Cor Γ 4 (lX9_markWith L a).1 (lX9_markWith L a).2.1 (lX9_markWith L a).2.2.1 (lX9_markWith L a).2.2.2.1 (lX9_markWith L a).2.2.2.2 (J L a)) (a : List Value) : Cor Γ 4 0 0 2 (List.zip [0, 1, 2, 3] a) [] (bX9_markWith_1 J a) := by
  unfold bX9_markWith_1
  split
  · rename_i x0 x1 x2 x3
    refine c_sub [0, 1, 2, 3] rfl (loc' := [(0, .ref x0), (1, .ref x1), (2, .int x2), (3, .int x3)]) ?_
    refine q_iload_n hC 3 dX9_markWith_2 rfl rfl ?_
    refine q_aload_n hC 0 dX9_markWith_3 rfl rfl ?_
    refine q_getI hC (by decide) (by decide) rfl w_6 dX9_markWith_4 (fun v1 => ?_)
    refine q_ic_ge hC 27 dX9_markWith_7 rfl ?_ ?_
    · refine q_iconst hC dX9_markWith_27 rfl ?_
      exact q_iret hC dX9_markWith_28 (Nat.le_of_ble_eq_true rfl) (Nat.le_of_ble_eq_true rfl)
    · refine q_aload_n hC 1 dX9_markWith_10 rfl rfl ?_
      refine q_iload_n hC 3 dX9_markWith_11 rfl rfl ?_
      refine q_cNI hC hnt (stk := []) (as := [.ref x1, .int x3]) sX10_cell nX10_cell rfl w_233 w_202 w_27 w_201 (Nat.le_of_ble_eq_true rfl) dX9_markWith_12 rfl (fun v2 => ?_)
      refine q_iload_n hC 2 dX9_markWith_15 rfl rfl ?_
      refine q_ic_ne hC 21 dX9_markWith_16 rfl ?_ ?_
      · refine q_iincA hC (loc' := [(3, .int (x3 + 1)), (0, .ref x0), (1, .ref x1), (2, .int x2)]) 3 1 dX9_markWith_21 rfl rfl (Nat.le_of_ble_eq_true rfl) rfl ?_
        refine q_goto hC 2 dX9_markWith_24 rfl ?_
        exact c_sub [1, 2, 3, 0] rfl (hJ 1 [.ref x0, .ref x1, .int x2, .int (x3 + 1)])
      · refine q_iload_n hC 3 dX9_markWith_19 rfl rfl ?_
        exact q_iret hC dX9_markWith_20 (Nat.le_of_ble_eq_true rfl) (Nat.le_of_ble_eq_true rfl)
  · exact c_no
theorem sX9_markWith : Snd yX9_markWith (.code yX9_markWith cX9_markWith 4 (some .int)) rmX9_markWith SX9_markWith := by
  refine Snd.of lX9_markWith (by decide +kernel) (fun _ => rfl) ?_
  intro Γ hC hnt hnm J hJ L a
  match L with
  | 0 => exact pX9_markWith_0 hC hnt J hJ a
  | 1 => exact pX9_markWith_1 hC hnt J hJ a
  | L + 2 => exact c_no
/-! SpiritWall$Wall.named(I)I -/
theorem dX9_named_0 : decode cX9_named 0 = .ok (.aload_n 0, 1) := by decide +kernel
theorem dX9_named_1 : decode cX9_named 1 = .ok (.aload_n 0, 1) := by decide +kernel
theorem dX9_named_2 : decode cX9_named 2 = .ok (.getfield 15, 3) := by decide +kernel
theorem dX9_named_5 : decode cX9_named 5 = .ok (.iload_n 1, 1) := by decide +kernel
theorem dX9_named_6 : decode cX9_named 6 = .ok (.invokevirtual 26, 3) := by decide +kernel
theorem dX9_named_9 : decode cX9_named 9 = .ok (.ireturn, 1) := by decide +kernel
def rmX9_named : Room := rmk 8 0 0 194
theorem nX9_named : nameOk yX9_named 1 = true := by decide +kernel
def bX9_named_0 (J : JT) : List Value → Sem
  | [.ref x0, .int x1] =>
    gR 9 1 x0 fun r1 =>
    ob 9 x0 (cI SX9_markWith [.ref x0, .ref r1, .int x1] fun v2 =>
    rI v2)
  | _ => no
def bX9_named (J : JT) : JT := fun L a => match L with
  | 0 => bX9_named_0 J a
  | _ => no
def SX9_named : ST := mk 2 bX9_named
def lX9_named (L : Nat) (a : List Value) : Nat × Nat × Nat × List (Nat × Value) × List Value := match L with
  | 0 => (0, 0, 0, lv_args 0 a, [])
  | _ => (0, 0, 0, [], [])
theorem pX9_named_0 {Γ : CT} (hC : Ctx Γ "SpiritWall$Wall" cX9_named 2 (some .int) rmX9_named) (hnt : NT Γ) (J : JT) (hJ : ∀ L a, Cor Γ 2 (lX9_named L a).1 (lX9_named L a).2.1 (lX9_named L a).2.2.1 (lX9_named L a).2.2.2.1 (lX9_named L a).2.2.2.2 (J L a)) (a : List Value) : Cor Γ 2 0 0 0 (lv_args 0 a) [] (bX9_named_0 J a) := by
  unfold bX9_named_0
  split
  · rename_i x0 x1
    refine c_sub [0, 1] rfl (loc' := [(0, .ref x0), (1, .int x1)]) ?_
    refine q_aload_n hC 0 dX9_named_0 rfl rfl ?_
    refine q_aload_n hC 0 dX9_named_1 rfl rfl ?_
    refine q_getR hC (by decide) (by decide) rfl w_7 dX9_named_2 (fun r1 => ?_)
    refine q_iload_n hC 1 dX9_named_5 rfl rfl ?_
    refine q_cVI hC hnt (stk := []) (as := [.ref r1, .int x1]) sX9_markWith (ci := 9) (by decide) rfl nX9_markWith rfl w_234 w_236 w_237 w_65 w_235 (Nat.le_of_ble_eq_true rfl) dX9_named_6 rfl (fun v2 => ?_)
    exact q_iret hC dX9_named_9 (Nat.le_of_ble_eq_true rfl) (Nat.le_of_ble_eq_true rfl)
  · exact c_no
theorem sX9_named : Snd yX9_named (.code yX9_named cX9_named 2 (some .int)) rmX9_named SX9_named := by
  refine Snd.of lX9_named (by decide +kernel) (fun _ => rfl) ?_
  intro Γ hC hnt hnm J hJ L a
  match L with
  | 0 => exact pX9_named_0 hC hnt J hJ a
  | L + 1 => exact c_no
/-! SpiritWall$Wall.placedAt(I)I -/
theorem dX9_placedAt_0 : decode cX9_placedAt 0 = .ok (.aload_n 0, 1) := by decide +kernel
theorem dX9_placedAt_1 : decode cX9_placedAt 1 = .ok (.aload_n 0, 1) := by decide +kernel
theorem dX9_placedAt_2 : decode cX9_placedAt 2 = .ok (.getfield 19, 3) := by decide +kernel
theorem dX9_placedAt_5 : decode cX9_placedAt 5 = .ok (.iload_n 1, 1) := by decide +kernel
theorem dX9_placedAt_6 : decode cX9_placedAt 6 = .ok (.invokevirtual 26, 3) := by decide +kernel
theorem dX9_placedAt_9 : decode cX9_placedAt 9 = .ok (.ireturn, 1) := by decide +kernel
def rmX9_placedAt : Room := rmk 8 0 0 194
theorem nX9_placedAt : nameOk yX9_placedAt 1 = true := by decide +kernel
def bX9_placedAt_0 (J : JT) : List Value → Sem
  | [.ref x0, .int x1] =>
    gR 9 2 x0 fun r1 =>
    ob 9 x0 (cI SX9_markWith [.ref x0, .ref r1, .int x1] fun v2 =>
    rI v2)
  | _ => no
def bX9_placedAt (J : JT) : JT := fun L a => match L with
  | 0 => bX9_placedAt_0 J a
  | _ => no
def SX9_placedAt : ST := mk 2 bX9_placedAt
def lX9_placedAt (L : Nat) (a : List Value) : Nat × Nat × Nat × List (Nat × Value) × List Value := match L with
  | 0 => (0, 0, 0, lv_args 0 a, [])
  | _ => (0, 0, 0, [], [])
theorem pX9_placedAt_0 {Γ : CT} (hC : Ctx Γ "SpiritWall$Wall" cX9_placedAt 2 (some .int) rmX9_placedAt) (hnt : NT Γ) (J : JT) (hJ : ∀ L a, Cor Γ 2 (lX9_placedAt L a).1 (lX9_placedAt L a).2.1 (lX9_placedAt L a).2.2.1 (lX9_placedAt L a).2.2.2.1 (lX9_placedAt L a).2.2.2.2 (J L a)) (a : List Value) : Cor Γ 2 0 0 0 (lv_args 0 a) [] (bX9_placedAt_0 J a) := by
  unfold bX9_placedAt_0
  split
  · rename_i x0 x1
    refine c_sub [0, 1] rfl (loc' := [(0, .ref x0), (1, .int x1)]) ?_
    refine q_aload_n hC 0 dX9_placedAt_0 rfl rfl ?_
    refine q_aload_n hC 0 dX9_placedAt_1 rfl rfl ?_
    refine q_getR hC (by decide) (by decide) rfl w_8 dX9_placedAt_2 (fun r1 => ?_)
    refine q_iload_n hC 1 dX9_placedAt_5 rfl rfl ?_
    refine q_cVI hC hnt (stk := []) (as := [.ref r1, .int x1]) sX9_markWith (ci := 9) (by decide) rfl nX9_markWith rfl w_234 w_236 w_237 w_65 w_235 (Nat.le_of_ble_eq_true rfl) dX9_placedAt_6 rfl (fun v2 => ?_)
    exact q_iret hC dX9_placedAt_9 (Nat.le_of_ble_eq_true rfl) (Nat.le_of_ble_eq_true rfl)
  · exact c_no
theorem sX9_placedAt : Snd yX9_placedAt (.code yX9_placedAt cX9_placedAt 2 (some .int)) rmX9_placedAt SX9_placedAt := by
  refine Snd.of lX9_placedAt (by decide +kernel) (fun _ => rfl) ?_
  intro Γ hC hnt hnm J hJ L a
  match L with
  | 0 => exact pX9_placedAt_0 hC hnt J hJ a
  | L + 1 => exact c_no
/-! SpiritWall$Wall.add(II)I -/
theorem dX9_add_0 : decode cX9_add 0 = .ok (.aload_n 0, 1) := by decide +kernel
theorem dX9_add_1 : decode cX9_add 1 = .ok (.getfield 9, 3) := by decide +kernel
theorem dX9_add_4 : decode cX9_add 4 = .ok (.istore_n 3, 1) := by decide +kernel
theorem dX9_add_5 : decode cX9_add 5 = .ok (.aload_n 0, 1) := by decide +kernel
theorem dX9_add_6 : decode cX9_add 6 = .ok (.getfield 15, 3) := by decide +kernel
theorem dX9_add_9 : decode cX9_add 9 = .ok (.iload_n 3, 1) := by decide +kernel
theorem dX9_add_10 : decode cX9_add 10 = .ok (.iload_n 1, 1) := by decide +kernel
theorem dX9_add_11 : decode cX9_add 11 = .ok (.invokestatic 33, 3) := by decide +kernel
theorem dX9_add_14 : decode cX9_add 14 = .ok (.aload_n 0, 1) := by decide +kernel
theorem dX9_add_15 : decode cX9_add 15 = .ok (.getfield 19, 3) := by decide +kernel
theorem dX9_add_18 : decode cX9_add 18 = .ok (.iload_n 3, 1) := by decide +kernel
theorem dX9_add_19 : decode cX9_add 19 = .ok (.iload_n 2, 1) := by decide +kernel
theorem dX9_add_20 : decode cX9_add 20 = .ok (.invokestatic 33, 3) := by decide +kernel
theorem dX9_add_23 : decode cX9_add 23 = .ok (.aload_n 0, 1) := by decide +kernel
theorem dX9_add_24 : decode cX9_add 24 = .ok (.dup, 1) := by decide +kernel
theorem dX9_add_25 : decode cX9_add 25 = .ok (.getfield 9, 3) := by decide +kernel
theorem dX9_add_28 : decode cX9_add 28 = .ok (.iconst 1, 1) := by decide +kernel
theorem dX9_add_29 : decode cX9_add 29 = .ok (.iadd, 1) := by decide +kernel
theorem dX9_add_30 : decode cX9_add 30 = .ok (.putfield 9, 3) := by decide +kernel
theorem dX9_add_33 : decode cX9_add 33 = .ok (.iload_n 3, 1) := by decide +kernel
theorem dX9_add_34 : decode cX9_add 34 = .ok (.ireturn, 1) := by decide +kernel
def rmX9_add : Room := rmk 7 0 0 172
theorem nX9_add : nameOk yX9_add 2 = true := by decide +kernel
def bX9_add_0 (J : JT) : List Value → Sem
  | [.ref x0, .int x1, .int x2] =>
    gI 9 0 x0 fun v1 =>
    gR 9 1 x0 fun r2 =>
    cV SX10_put [.ref r2, .int v1, .int x1] <|
    gR 9 2 x0 fun r3 =>
    cV SX10_put [.ref r3, .int v1, .int x2] <|
    gI 9 0 x0 fun v4 =>
    pI 9 0 x0 (v4 + 1) <|
    rI v1
  | _ => no
def bX9_add (J : JT) : JT := fun L a => match L with
  | 0 => bX9_add_0 J a
  | _ => no
def SX9_add : ST := mk 4 bX9_add
def lX9_add (L : Nat) (a : List Value) : Nat × Nat × Nat × List (Nat × Value) × List Value := match L with
  | 0 => (0, 0, 0, lv_args 0 a, [])
  | _ => (0, 0, 0, [], [])
theorem pX9_add_0 {Γ : CT} (hC : Ctx Γ "SpiritWall$Wall" cX9_add 4 (some .int) rmX9_add) (hnt : NT Γ) (J : JT) (hJ : ∀ L a, Cor Γ 4 (lX9_add L a).1 (lX9_add L a).2.1 (lX9_add L a).2.2.1 (lX9_add L a).2.2.2.1 (lX9_add L a).2.2.2.2 (J L a)) (a : List Value) : Cor Γ 4 0 0 0 (lv_args 0 a) [] (bX9_add_0 J a) := by
  unfold bX9_add_0
  split
  · rename_i x0 x1 x2
    refine c_sub [0, 1, 2] rfl (loc' := [(0, .ref x0), (1, .int x1), (2, .int x2)]) ?_
    refine q_aload_n hC 0 dX9_add_0 rfl rfl ?_
    refine q_getI hC (by decide) (by decide) rfl w_6 dX9_add_1 (fun v1 => ?_)
    refine q_istore_nA hC (loc' := [(3, .int v1), (0, .ref x0), (1, .int x1), (2, .int x2)]) dX9_add_4 rfl (Nat.le_of_ble_eq_true rfl) rfl ?_
    refine q_aload_n hC 1 dX9_add_5 rfl rfl ?_
    refine q_getR hC (by decide) (by decide) rfl w_7 dX9_add_6 (fun r2 => ?_)
    refine q_iload_n hC 0 dX9_add_9 rfl rfl ?_
    refine q_iload_n hC 2 dX9_add_10 rfl rfl ?_
    refine q_cNV hC hnt (stk := []) (as := [.ref r2, .int v1, .int x1]) sX10_put nX10_put rfl w_238 w_187 w_27 w_186 (Nat.le_of_ble_eq_true rfl) dX9_add_11 rfl ?_
    refine q_aload_n hC 1 dX9_add_14 rfl rfl ?_
    refine q_getR hC (by decide) (by decide) rfl w_8 dX9_add_15 (fun r3 => ?_)
    refine q_iload_n hC 0 dX9_add_18 rfl rfl ?_
    refine q_iload_n hC 3 dX9_add_19 rfl rfl ?_
    refine q_cNV hC hnt (stk := []) (as := [.ref r3, .int v1, .int x2]) sX10_put nX10_put rfl w_238 w_187 w_27 w_186 (Nat.le_of_ble_eq_true rfl) dX9_add_20 rfl ?_
    refine q_aload_n hC 1 dX9_add_23 rfl rfl ?_
    refine q_dup hC dX9_add_24 ?_
    refine q_getI hC (by decide) (by decide) rfl w_6 dX9_add_25 (fun v4 => ?_)
    refine q_iconst hC dX9_add_28 rfl ?_
    refine q_iadd hC dX9_add_29 ?_
    refine q_putI hC (by decide) (by decide) rfl rfl w_6 dX9_add_30 ?_
    refine q_iload_n hC 0 dX9_add_33 rfl rfl ?_
    exact q_iret hC dX9_add_34 (Nat.le_of_ble_eq_true rfl) (Nat.le_of_ble_eq_true rfl)
  · exact c_no
theorem sX9_add : Snd yX9_add (.code yX9_add cX9_add 4 (some .int)) rmX9_add SX9_add := by
  refine Snd.of lX9_add (by decide +kernel) (fun _ => rfl) ?_
  intro Γ hC hnt hnm J hJ L a
  match L with
  | 0 => exact pX9_add_0 hC hnt J hJ a
  | L + 1 => exact c_no
/-! SpiritWall$Reader.readNumber(ZII)Z -/
theorem dX5_readNumber_0 : decode cX5_readNumber 0 = .ok (.iload_n 1, 1) := by decide +kernel
theorem dX5_readNumber_1 : decode cX5_readNumber 1 = .ok (.ifCond .eq 19, 3) := by decide +kernel
theorem dX5_readNumber_4 : decode cX5_readNumber 4 = .ok (.aload_n 0, 1) := by decide +kernel
theorem dX5_readNumber_5 : decode cX5_readNumber 5 = .ok (.getfield 44, 3) := by decide +kernel
theorem dX5_readNumber_8 : decode cX5_readNumber 8 = .ok (.getfield 61, 3) := by decide +kernel
theorem dX5_readNumber_11 : decode cX5_readNumber 11 = .ok (.bipush 13, 2) := by decide +kernel
theorem dX5_readNumber_13 : decode cX5_readNumber 13 = .ok (.if_icmp .ne 7, 3) := by decide +kernel
theorem dX5_readNumber_16 : decode cX5_readNumber 16 = .ok (.iconst 1, 1) := by decide +kernel
theorem dX5_readNumber_17 : decode cX5_readNumber 17 = .ok (.goto 4, 3) := by decide +kernel
theorem dX5_readNumber_20 : decode cX5_readNumber 20 = .ok (.iconst 0, 1) := by decide +kernel
theorem dX5_readNumber_21 : decode cX5_readNumber 21 = .ok (.istore 4, 2) := by decide +kernel
theorem dX5_readNumber_23 : decode cX5_readNumber 23 = .ok (.iload 4, 2) := by decide +kernel
theorem dX5_readNumber_25 : decode cX5_readNumber 25 = .ok (.ifCond .eq 10, 3) := by decide +kernel
theorem dX5_readNumber_28 : decode cX5_readNumber 28 = .ok (.aload_n 0, 1) := by decide +kernel
theorem dX5_readNumber_29 : decode cX5_readNumber 29 = .ok (.getfield 44, 3) := by decide +kernel
theorem dX5_readNumber_32 : decode cX5_readNumber 32 = .ok (.invokevirtual 78, 3) := by decide +kernel
theorem dX5_readNumber_35 : decode cX5_readNumber 35 = .ok (.aload_n 0, 1) := by decide +kernel
theorem dX5_readNumber_36 : decode cX5_readNumber 36 = .ok (.getfield 44, 3) := by decide +kernel
theorem dX5_readNumber_39 : decode cX5_readNumber 39 = .ok (.getfield 61, 3) := by decide +kernel
theorem dX5_readNumber_42 : decode cX5_readNumber 42 = .ok (.bipush 12, 2) := by decide +kernel
theorem dX5_readNumber_44 : decode cX5_readNumber 44 = .ok (.if_icmp .eq 9, 3) := by decide +kernel
theorem dX5_readNumber_47 : decode cX5_readNumber 47 = .ok (.aload_n 0, 1) := by decide +kernel
theorem dX5_readNumber_48 : decode cX5_readNumber 48 = .ok (.iconst 1, 1) := by decide +kernel
theorem dX5_readNumber_49 : decode cX5_readNumber 49 = .ok (.invokevirtual 74, 3) := by decide +kernel
theorem dX5_readNumber_52 : decode cX5_readNumber 52 = .ok (.ireturn, 1) := by decide +kernel
theorem dX5_readNumber_53 : decode cX5_readNumber 53 = .ok (.aload_n 0, 1) := by decide +kernel
theorem dX5_readNumber_54 : decode cX5_readNumber 54 = .ok (.iload 4, 2) := by decide +kernel
theorem dX5_readNumber_56 : decode cX5_readNumber 56 = .ok (.ifCond .eq 14, 3) := by decide +kernel
theorem dX5_readNumber_59 : decode cX5_readNumber 59 = .ok (.aload_n 0, 1) := by decide +kernel
theorem dX5_readNumber_60 : decode cX5_readNumber 60 = .ok (.getfield 44, 3) := by decide +kernel
theorem dX5_readNumber_63 : decode cX5_readNumber 63 = .ok (.getfield 101, 3) := by decide +kernel
theorem dX5_readNumber_66 : decode cX5_readNumber 66 = .ok (.ineg, 1) := by decide +kernel
theorem dX5_readNumber_67 : decode cX5_readNumber 67 = .ok (.goto 10, 3) := by decide +kernel
theorem dX5_readNumber_70 : decode cX5_readNumber 70 = .ok (.aload_n 0, 1) := by decide +kernel
theorem dX5_readNumber_71 : decode cX5_readNumber 71 = .ok (.getfield 44, 3) := by decide +kernel
theorem dX5_readNumber_74 : decode cX5_readNumber 74 = .ok (.getfield 101, 3) := by decide +kernel
theorem dX5_readNumber_77 : decode cX5_readNumber 77 = .ok (.putfield 36, 3) := by decide +kernel
theorem dX5_readNumber_80 : decode cX5_readNumber 80 = .ok (.aload_n 0, 1) := by decide +kernel
theorem dX5_readNumber_81 : decode cX5_readNumber 81 = .ok (.getfield 36, 3) := by decide +kernel
theorem dX5_readNumber_84 : decode cX5_readNumber 84 = .ok (.iload_n 2, 1) := by decide +kernel
theorem dX5_readNumber_85 : decode cX5_readNumber 85 = .ok (.if_icmp .lt 11, 3) := by decide +kernel
theorem dX5_readNumber_88 : decode cX5_readNumber 88 = .ok (.aload_n 0, 1) := by decide +kernel
theorem dX5_readNumber_89 : decode cX5_readNumber 89 = .ok (.getfield 36, 3) := by decide +kernel
theorem dX5_readNumber_92 : decode cX5_readNumber 92 = .ok (.iload_n 3, 1) := by decide +kernel
theorem dX5_readNumber_93 : decode cX5_readNumber 93 = .ok (.if_icmp .le 9, 3) := by decide +kernel
theorem dX5_readNumber_96 : decode cX5_readNumber 96 = .ok (.aload_n 0, 1) := by decide +kernel
theorem dX5_readNumber_97 : decode cX5_readNumber 97 = .ok (.iconst 2, 1) := by decide +kernel
theorem dX5_readNumber_98 : decode cX5_readNumber 98 = .ok (.invokevirtual 74, 3) := by decide +kernel
theorem dX5_readNumber_101 : decode cX5_readNumber 101 = .ok (.ireturn, 1) := by decide +kernel
theorem dX5_readNumber_102 : decode cX5_readNumber 102 = .ok (.aload_n 0, 1) := by decide +kernel
theorem dX5_readNumber_103 : decode cX5_readNumber 103 = .ok (.getfield 44, 3) := by decide +kernel
theorem dX5_readNumber_106 : decode cX5_readNumber 106 = .ok (.invokevirtual 78, 3) := by decide +kernel
theorem dX5_readNumber_109 : decode cX5_readNumber 109 = .ok (.iconst 1, 1) := by decide +kernel
theorem dX5_readNumber_110 : decode cX5_readNumber 110 = .ok (.ireturn, 1) := by decide +kernel
def rmX5_readNumber : Room := rmk 9 0 0 213
theorem nX5_readNumber : nameOk yX5_readNumber 3 = true := by decide +kernel
def bX5_readNumber_0 (J : JT) : List Value → Sem
  | [.ref x0, .int x1, .int x2, .int x3] =>
    br (x1 = 0)
    (br ((0 : Int32) = 0)
    (J 1 [.ref x0, .int x2, .int x3, .int 0])
    (gR 5 0 x0 fun r1 =>
    ob 8 r1 (cV SX8_advance [.ref r1] <|
    J 1 [.ref x0, .int x2, .int x3, .int 0])))
    (gR 5 0 x0 fun r2 =>
    gI 8 2 r2 fun v3 =>
    br (v3 = (13 : Int32))
    (br ((1 : Int32) = 0)
    (J 1 [.ref x0, .int x2, .int x3, .int 1])
    (gR 5 0 x0 fun r5 =>
    ob 8 r5 (cV SX8_advance [.ref r5] <|
    J 1 [.ref x0, .int x2, .int x3, .int 1])))
    (br ((0 : Int32) = 0)
    (J 1 [.ref x0, .int x2, .int x3, .int 0])
    (gR 5 0 x0 fun r4 =>
    ob 8 r4 (cV SX8_advance [.ref r4] <|
    J 1 [.ref x0, .int x2, .int x3, .int 0]))))
  | _ => no
def bX5_readNumber_1 (J : JT) : List Value → Sem
  | [.ref x0, .int x2, .int x3, .int x4] =>
    gR 5 0 x0 fun r1 =>
    gI 8 2 r1 fun v2 =>
    br (v2 = (12 : Int32))
    (br (x4 = 0)
    (gR 5 0 x0 fun r3 =>
    gI 8 6 r3 fun v4 =>
    pI 5 6 x0 v4 <|
    gI 5 6 x0 fun v5 =>
    br (v5 < x2)
    (ob 5 x0 (cI SX5_fail [.ref x0, .int 2] fun v6 =>
    rZ v6))
    (gI 5 6 x0 fun v7 =>
    br (v7 ≤ x3)
    (gR 5 0 x0 fun r8 =>
    ob 8 r8 (cV SX8_advance [.ref r8] <|
    rZ 1))
    (ob 5 x0 (cI SX5_fail [.ref x0, .int 2] fun v9 =>
    rZ v9))))
    (gR 5 0 x0 fun r10 =>
    gI 8 6 r10 fun v11 =>
    pI 5 6 x0 (-v11) <|
    gI 5 6 x0 fun v12 =>
    br (v12 < x2)
    (ob 5 x0 (cI SX5_fail [.ref x0, .int 2] fun v13 =>
    rZ v13))
    (gI 5 6 x0 fun v14 =>
    br (v14 ≤ x3)
    (gR 5 0 x0 fun r15 =>
    ob 8 r15 (cV SX8_advance [.ref r15] <|
    rZ 1))
    (ob 5 x0 (cI SX5_fail [.ref x0, .int 2] fun v16 =>
    rZ v16)))))
    (ob 5 x0 (cI SX5_fail [.ref x0, .int 1] fun v17 =>
    rZ v17))
  | _ => no
def bX5_readNumber (J : JT) : JT := fun L a => match L with
  | 0 => bX5_readNumber_0 J a
  | 1 => bX5_readNumber_1 J a
  | _ => no
def SX5_readNumber : ST := mk 5 bX5_readNumber
def lX5_readNumber (L : Nat) (a : List Value) : Nat × Nat × Nat × List (Nat × Value) × List Value := match L with
  | 0 => (0, 0, 0, lv_args 0 a, [])
  | 1 => (0, 0, 35, List.zip [0, 2, 3, 4] a, [])
  | _ => (0, 0, 0, [], [])
theorem pX5_readNumber_0 {Γ : CT} (hC : Ctx Γ "SpiritWall$Reader" cX5_readNumber 5 (some .boolean) rmX5_readNumber) (hnt : NT Γ) (J : JT) (hJ : ∀ L a, Cor Γ 5 (lX5_readNumber L a).1 (lX5_readNumber L a).2.1 (lX5_readNumber L a).2.2.1 (lX5_readNumber L a).2.2.2.1 (lX5_readNumber L a).2.2.2.2 (J L a)) (a : List Value) : Cor Γ 5 0 0 0 (lv_args 0 a) [] (bX5_readNumber_0 J a) := by
  unfold bX5_readNumber_0
  split
  · rename_i x0 x1 x2 x3
    refine c_sub [0, 1, 2, 3] rfl (loc' := [(0, .ref x0), (1, .int x1), (2, .int x2), (3, .int x3)]) ?_
    refine q_iload_n hC 1 dX5_readNumber_0 rfl rfl ?_
    refine q_if_eq hC 20 dX5_readNumber_1 rfl ?_ ?_
    · refine q_iconst hC dX5_readNumber_20 rfl ?_
      refine q_istoreA hC (loc' := [(4, .int 0), (0, .ref x0), (1, .int x1), (2, .int x2), (3, .int x3)]) dX5_readNumber_21 (Nat.le_of_ble_eq_true rfl) rfl ?_
      refine q_iload hC 0 dX5_readNumber_23 rfl ?_
      refine q_if_eq hC 35 dX5_readNumber_25 rfl ?_ ?_
      · exact c_sub [1, 3, 4, 0] rfl (hJ 1 [.ref x0, .int x2, .int x3, .int 0])
      · refine q_aload_n hC 1 dX5_readNumber_28 rfl rfl ?_
        refine q_getR hC (by decide) (by decide) rfl w_77 dX5_readNumber_29 (fun r1 => ?_)
        refine q_cVV hC hnt (stk := []) (as := []) sX8_advance (ci := 8) (by decide) rfl nX8_advance rfl w_239 w_230 w_231 w_76 w_229 (Nat.le_of_ble_eq_true rfl) dX5_readNumber_32 rfl ?_
        exact c_sub [1, 3, 4, 0] rfl (hJ 1 [.ref x0, .int x2, .int x3, .int 0])
    · refine q_aload_n hC 0 dX5_readNumber_4 rfl rfl ?_
      refine q_getR hC (by decide) (by decide) rfl w_77 dX5_readNumber_5 (fun r2 => ?_)
      refine q_getI hC (by decide) (by decide) rfl w_240 dX5_readNumber_8 (fun v3 => ?_)
      refine q_bipush hC (v := 13) dX5_readNumber_11 rfl ?_
      refine q_ic_ne hC 20 dX5_readNumber_13 rfl ?_ ?_
      · refine q_iconst hC dX5_readNumber_20 rfl ?_
        refine q_istoreA hC (loc' := [(4, .int 0), (0, .ref x0), (1, .int x1), (2, .int x2), (3, .int x3)]) dX5_readNumber_21 (Nat.le_of_ble_eq_true rfl) rfl ?_
        refine q_iload hC 0 dX5_readNumber_23 rfl ?_
        refine q_if_eq hC 35 dX5_readNumber_25 rfl ?_ ?_
        · exact c_sub [1, 3, 4, 0] rfl (hJ 1 [.ref x0, .int x2, .int x3, .int 0])
        · refine q_aload_n hC 1 dX5_readNumber_28 rfl rfl ?_
          refine q_getR hC (by decide) (by decide) rfl w_77 dX5_readNumber_29 (fun r4 => ?_)
          refine q_cVV hC hnt (stk := []) (as := []) sX8_advance (ci := 8) (by decide) rfl nX8_advance rfl w_239 w_230 w_231 w_76 w_229 (Nat.le_of_ble_eq_true rfl) dX5_readNumber_32 rfl ?_
          exact c_sub [1, 3, 4, 0] rfl (hJ 1 [.ref x0, .int x2, .int x3, .int 0])
      · refine q_iconst hC dX5_readNumber_16 rfl ?_
        refine q_goto hC 21 dX5_readNumber_17 rfl ?_
        refine q_istoreA hC (loc' := [(4, .int 1), (0, .ref x0), (1, .int x1), (2, .int x2), (3, .int x3)]) dX5_readNumber_21 (Nat.le_of_ble_eq_true rfl) rfl ?_
        refine q_iload hC 0 dX5_readNumber_23 rfl ?_
        refine q_if_eq hC 35 dX5_readNumber_25 rfl ?_ ?_
        · exact c_sub [1, 3, 4, 0] rfl (hJ 1 [.ref x0, .int x2, .int x3, .int 1])
        · refine q_aload_n hC 1 dX5_readNumber_28 rfl rfl ?_
          refine q_getR hC (by decide) (by decide) rfl w_77 dX5_readNumber_29 (fun r5 => ?_)
          refine q_cVV hC hnt (stk := []) (as := []) sX8_advance (ci := 8) (by decide) rfl nX8_advance rfl w_239 w_230 w_231 w_76 w_229 (Nat.le_of_ble_eq_true rfl) dX5_readNumber_32 rfl ?_
          exact c_sub [1, 3, 4, 0] rfl (hJ 1 [.ref x0, .int x2, .int x3, .int 1])
  · exact c_no
theorem pX5_readNumber_1 {Γ : CT} (hC : Ctx Γ "SpiritWall$Reader" cX5_readNumber 5 (some .boolean) rmX5_readNumber) (hnt : NT Γ) (J : JT) (hJ : ∀ L a, Cor Γ 5 (lX5_readNumber L a).1 (lX5_readNumber L a).2.1 (lX5_readNumber L a).2.2.1 (lX5_readNumber L a).2.2.2.1 (lX5_readNumber L a).2.2.2.2 (J L a)) (a : List Value) : Cor Γ 5 0 0 35 (List.zip [0, 2, 3, 4] a) [] (bX5_readNumber_1 J a) := by
  unfold bX5_readNumber_1
  split
  · rename_i x0 x2 x3 x4
    refine c_sub [0, 1, 2, 3] rfl (loc' := [(0, .ref x0), (2, .int x2), (3, .int x3), (4, .int x4)]) ?_
    refine q_aload_n hC 0 dX5_readNumber_35 rfl rfl ?_
    refine q_getR hC (by decide) (by decide) rfl w_77 dX5_readNumber_36 (fun r1 => ?_)
    refine q_getI hC (by decide) (by decide) rfl w_240 dX5_readNumber_39 (fun v2 => ?_)
    refine q_bipush hC (v := 12) dX5_readNumber_42 rfl ?_
    refine q_ic_eq hC 53 dX5_readNumber_44 rfl ?_ ?_
    · refine q_aload_n hC 0 dX5_readNumber_53 rfl rfl ?_
      refine q_iload hC 3 dX5_readNumber_54 rfl ?_
      refine q_if_eq hC 70 dX5_readNumber_56 rfl ?_ ?_
      · refine q_aload_n hC 0 dX5_readNumber_70 rfl rfl ?_
        refine q_getR hC (by decide) (by decide) rfl w_77 dX5_readNumber_71 (fun r3 => ?_)
        refine q_getI hC (by decide) (by decide) rfl w_241 dX5_readNumber_74 (fun v4 => ?_)
        refine q_putI hC (by decide) (by decide) rfl rfl w_72 dX5_readNumber_77 ?_
        refine q_aload_n hC 0 dX5_readNumber_80 rfl rfl ?_
        refine q_getI hC (by decide) (by decide) rfl w_72 dX5_readNumber_81 (fun v5 => ?_)
        refine q_iload_n hC 1 dX5_readNumber_84 rfl rfl ?_
        refine q_ic_lt hC 96 dX5_readNumber_85 rfl ?_ ?_
        · refine q_aload_n hC 0 dX5_readNumber_96 rfl rfl ?_
          refine q_iconst hC dX5_readNumber_97 rfl ?_
          refine q_cVI hC hnt (stk := []) (as := [.int 2]) sX5_fail (ci := 5) (by decide) rfl nX5_fail rfl w_242 w_244 w_245 w_144 w_243 (Nat.le_of_ble_eq_true rfl) dX5_readNumber_98 rfl (fun v6 => ?_)
          exact q_zret hC dX5_readNumber_101 (Nat.le_of_ble_eq_true rfl) (Nat.le_of_ble_eq_true rfl)
        · refine q_aload_n hC 0 dX5_readNumber_88 rfl rfl ?_
          refine q_getI hC (by decide) (by decide) rfl w_72 dX5_readNumber_89 (fun v7 => ?_)
          refine q_iload_n hC 2 dX5_readNumber_92 rfl rfl ?_
          refine q_ic_le hC 102 dX5_readNumber_93 rfl ?_ ?_
          · refine q_aload_n hC 0 dX5_readNumber_102 rfl rfl ?_
            refine q_getR hC (by decide) (by decide) rfl w_77 dX5_readNumber_103 (fun r8 => ?_)
            refine q_cVV hC hnt (stk := []) (as := []) sX8_advance (ci := 8) (by decide) rfl nX8_advance rfl w_239 w_230 w_231 w_76 w_229 (Nat.le_of_ble_eq_true rfl) dX5_readNumber_106 rfl ?_
            refine q_iconst hC dX5_readNumber_109 rfl ?_
            exact q_zret hC dX5_readNumber_110 (Nat.le_of_ble_eq_true rfl) (Nat.le_of_ble_eq_true rfl)
          · refine q_aload_n hC 0 dX5_readNumber_96 rfl rfl ?_
            refine q_iconst hC dX5_readNumber_97 rfl ?_
            refine q_cVI hC hnt (stk := []) (as := [.int 2]) sX5_fail (ci := 5) (by decide) rfl nX5_fail rfl w_242 w_244 w_245 w_144 w_243 (Nat.le_of_ble_eq_true rfl) dX5_readNumber_98 rfl (fun v9 => ?_)
            exact q_zret hC dX5_readNumber_101 (Nat.le_of_ble_eq_true rfl) (Nat.le_of_ble_eq_true rfl)
      · refine q_aload_n hC 0 dX5_readNumber_59 rfl rfl ?_
        refine q_getR hC (by decide) (by decide) rfl w_77 dX5_readNumber_60 (fun r10 => ?_)
        refine q_getI hC (by decide) (by decide) rfl w_241 dX5_readNumber_63 (fun v11 => ?_)
        refine q_ineg hC dX5_readNumber_66 ?_
        refine q_goto hC 77 dX5_readNumber_67 rfl ?_
        refine q_putI hC (by decide) (by decide) rfl rfl w_72 dX5_readNumber_77 ?_
        refine q_aload_n hC 0 dX5_readNumber_80 rfl rfl ?_
        refine q_getI hC (by decide) (by decide) rfl w_72 dX5_readNumber_81 (fun v12 => ?_)
        refine q_iload_n hC 1 dX5_readNumber_84 rfl rfl ?_
        refine q_ic_lt hC 96 dX5_readNumber_85 rfl ?_ ?_
        · refine q_aload_n hC 0 dX5_readNumber_96 rfl rfl ?_
          refine q_iconst hC dX5_readNumber_97 rfl ?_
          refine q_cVI hC hnt (stk := []) (as := [.int 2]) sX5_fail (ci := 5) (by decide) rfl nX5_fail rfl w_242 w_244 w_245 w_144 w_243 (Nat.le_of_ble_eq_true rfl) dX5_readNumber_98 rfl (fun v13 => ?_)
          exact q_zret hC dX5_readNumber_101 (Nat.le_of_ble_eq_true rfl) (Nat.le_of_ble_eq_true rfl)
        · refine q_aload_n hC 0 dX5_readNumber_88 rfl rfl ?_
          refine q_getI hC (by decide) (by decide) rfl w_72 dX5_readNumber_89 (fun v14 => ?_)
          refine q_iload_n hC 2 dX5_readNumber_92 rfl rfl ?_
          refine q_ic_le hC 102 dX5_readNumber_93 rfl ?_ ?_
          · refine q_aload_n hC 0 dX5_readNumber_102 rfl rfl ?_
            refine q_getR hC (by decide) (by decide) rfl w_77 dX5_readNumber_103 (fun r15 => ?_)
            refine q_cVV hC hnt (stk := []) (as := []) sX8_advance (ci := 8) (by decide) rfl nX8_advance rfl w_239 w_230 w_231 w_76 w_229 (Nat.le_of_ble_eq_true rfl) dX5_readNumber_106 rfl ?_
            refine q_iconst hC dX5_readNumber_109 rfl ?_
            exact q_zret hC dX5_readNumber_110 (Nat.le_of_ble_eq_true rfl) (Nat.le_of_ble_eq_true rfl)
          · refine q_aload_n hC 0 dX5_readNumber_96 rfl rfl ?_
            refine q_iconst hC dX5_readNumber_97 rfl ?_
            refine q_cVI hC hnt (stk := []) (as := [.int 2]) sX5_fail (ci := 5) (by decide) rfl nX5_fail rfl w_242 w_244 w_245 w_144 w_243 (Nat.le_of_ble_eq_true rfl) dX5_readNumber_98 rfl (fun v16 => ?_)
            exact q_zret hC dX5_readNumber_101 (Nat.le_of_ble_eq_true rfl) (Nat.le_of_ble_eq_true rfl)
    · refine q_aload_n hC 0 dX5_readNumber_47 rfl rfl ?_
      refine q_iconst hC dX5_readNumber_48 rfl ?_
      refine q_cVI hC hnt (stk := []) (as := [.int 1]) sX5_fail (ci := 5) (by decide) rfl nX5_fail rfl w_242 w_244 w_245 w_144 w_243 (Nat.le_of_ble_eq_true rfl) dX5_readNumber_49 rfl (fun v17 => ?_)
      exact q_zret hC dX5_readNumber_52 (Nat.le_of_ble_eq_true rfl) (Nat.le_of_ble_eq_true rfl)
  · exact c_no
theorem sX5_readNumber : Snd yX5_readNumber (.code yX5_readNumber cX5_readNumber 5 (some .boolean)) rmX5_readNumber SX5_readNumber := by
  refine Snd.of lX5_readNumber (by decide +kernel) (fun _ => rfl) ?_
  intro Γ hC hnt hnm J hJ L a
  match L with
  | 0 => exact pX5_readNumber_0 hC hnt J hJ a
  | 1 => exact pX5_readNumber_1 hC hnt J hJ a
  | L + 2 => exact c_no
/-! SpiritWall$State.putHeight(II)V -/
theorem dX6_putHeight_0 : decode cX6_putHeight 0 = .ok (.aload_n 0, 1) := by decide +kernel
theorem dX6_putHeight_1 : decode cX6_putHeight 1 = .ok (.getfield 26, 3) := by decide +kernel
theorem dX6_putHeight_4 : decode cX6_putHeight 4 = .ok (.iload_n 1, 1) := by decide +kernel
theorem dX6_putHeight_5 : decode cX6_putHeight 5 = .ok (.iconst 1, 1) := by decide +kernel
theorem dX6_putHeight_6 : decode cX6_putHeight 6 = .ok (.invokestatic 73, 3) := by decide +kernel
theorem dX6_putHeight_9 : decode cX6_putHeight 9 = .ok (.aload_n 0, 1) := by decide +kernel
theorem dX6_putHeight_10 : decode cX6_putHeight 10 = .ok (.getfield 29, 3) := by decide +kernel
theorem dX6_putHeight_13 : decode cX6_putHeight 13 = .ok (.iload_n 1, 1) := by decide +kernel
theorem dX6_putHeight_14 : decode cX6_putHeight 14 = .ok (.iload_n 2, 1) := by decide +kernel
theorem dX6_putHeight_15 : decode cX6_putHeight 15 = .ok (.invokestatic 73, 3) := by decide +kernel
theorem dX6_putHeight_18 : decode cX6_putHeight 18 = .ok (.return_, 1) := by decide +kernel
def rmX6_putHeight : Room := rmk 7 0 0 172
theorem nX6_putHeight : nameOk yX6_putHeight 2 = true := by decide +kernel
def bX6_putHeight_0 (J : JT) : List Value → Sem
  | [.ref x0, .int x1, .int x2] =>
    gR 6 4 x0 fun r1 =>
    cV SX10_put [.ref r1, .int x1, .int 1] <|
    gR 6 5 x0 fun r2 =>
    cV SX10_put [.ref r2, .int x1, .int x2] <|
    rV
  | _ => no
def bX6_putHeight (J : JT) : JT := fun L a => match L with
  | 0 => bX6_putHeight_0 J a
  | _ => no
def SX6_putHeight : ST := mk 3 bX6_putHeight
def lX6_putHeight (L : Nat) (a : List Value) : Nat × Nat × Nat × List (Nat × Value) × List Value := match L with
  | 0 => (0, 0, 0, lv_args 0 a, [])
  | _ => (0, 0, 0, [], [])
theorem pX6_putHeight_0 {Γ : CT} (hC : Ctx Γ "SpiritWall$State" cX6_putHeight 3 none rmX6_putHeight) (hnt : NT Γ) (J : JT) (hJ : ∀ L a, Cor Γ 3 (lX6_putHeight L a).1 (lX6_putHeight L a).2.1 (lX6_putHeight L a).2.2.1 (lX6_putHeight L a).2.2.2.1 (lX6_putHeight L a).2.2.2.2 (J L a)) (a : List Value) : Cor Γ 3 0 0 0 (lv_args 0 a) [] (bX6_putHeight_0 J a) := by
  unfold bX6_putHeight_0
  split
  · rename_i x0 x1 x2
    refine c_sub [0, 1, 2] rfl (loc' := [(0, .ref x0), (1, .int x1), (2, .int x2)]) ?_
    refine q_aload_n hC 0 dX6_putHeight_0 rfl rfl ?_
    refine q_getR hC (by decide) (by decide) rfl w_14 dX6_putHeight_1 (fun r1 => ?_)
    refine q_iload_n hC 1 dX6_putHeight_4 rfl rfl ?_
    refine q_iconst hC dX6_putHeight_5 rfl ?_
    refine q_cNV hC hnt (stk := []) (as := [.ref r1, .int x1, .int 1]) sX10_put nX10_put rfl w_246 w_187 w_27 w_186 (Nat.le_of_ble_eq_true rfl) dX6_putHeight_6 rfl ?_
    refine q_aload_n hC 0 dX6_putHeight_9 rfl rfl ?_
    refine q_getR hC (by decide) (by decide) rfl w_15 dX6_putHeight_10 (fun r2 => ?_)
    refine q_iload_n hC 1 dX6_putHeight_13 rfl rfl ?_
    refine q_iload_n hC 2 dX6_putHeight_14 rfl rfl ?_
    refine q_cNV hC hnt (stk := []) (as := [.ref r2, .int x1, .int x2]) sX10_put nX10_put rfl w_246 w_187 w_27 w_186 (Nat.le_of_ble_eq_true rfl) dX6_putHeight_15 rfl ?_
    exact q_vret hC dX6_putHeight_18 (Nat.le_of_ble_eq_true rfl) (Nat.le_of_ble_eq_true rfl)
  · exact c_no
theorem sX6_putHeight : Snd yX6_putHeight (.code yX6_putHeight cX6_putHeight 3 none) rmX6_putHeight SX6_putHeight := by
  refine Snd.of lX6_putHeight (by decide +kernel) (fun _ => rfl) ?_
  intro Γ hC hnt hnm J hJ L a
  match L with
  | 0 => exact pX6_putHeight_0 hC hnt J hJ a
  | L + 1 => exact c_no
/-! SpiritWall$State.makeBench(II)V -/
theorem dX6_makeBench_0 : decode cX6_makeBench 0 = .ok (.aload_n 0, 1) := by decide +kernel
theorem dX6_makeBench_1 : decode cX6_makeBench 1 = .ok (.getfield 23, 3) := by decide +kernel
theorem dX6_makeBench_4 : decode cX6_makeBench 4 = .ok (.iload_n 1, 1) := by decide +kernel
theorem dX6_makeBench_5 : decode cX6_makeBench 5 = .ok (.iconst 1, 1) := by decide +kernel
theorem dX6_makeBench_6 : decode cX6_makeBench 6 = .ok (.invokestatic 73, 3) := by decide +kernel
theorem dX6_makeBench_9 : decode cX6_makeBench 9 = .ok (.aload_n 0, 1) := by decide +kernel
theorem dX6_makeBench_10 : decode cX6_makeBench 10 = .ok (.iload_n 1, 1) := by decide +kernel
theorem dX6_makeBench_11 : decode cX6_makeBench 11 = .ok (.iload_n 2, 1) := by decide +kernel
theorem dX6_makeBench_12 : decode cX6_makeBench 12 = .ok (.invokevirtual 77, 3) := by decide +kernel
theorem dX6_makeBench_15 : decode cX6_makeBench 15 = .ok (.return_, 1) := by decide +kernel
def rmX6_makeBench : Room := rmk 8 0 0 194
theorem nX6_makeBench : nameOk yX6_makeBench 2 = true := by decide +kernel
def bX6_makeBench_0 (J : JT) : List Value → Sem
  | [.ref x0, .int x1, .int x2] =>
    gR 6 3 x0 fun r1 =>
    cV SX10_put [.ref r1, .int x1, .int 1] <|
    ob 6 x0 (cV SX6_putHeight [.ref x0, .int x1, .int x2] <|
    rV)
  | _ => no
def bX6_makeBench (J : JT) : JT := fun L a => match L with
  | 0 => bX6_makeBench_0 J a
  | _ => no
def SX6_makeBench : ST := mk 3 bX6_makeBench
def lX6_makeBench (L : Nat) (a : List Value) : Nat × Nat × Nat × List (Nat × Value) × List Value := match L with
  | 0 => (0, 0, 0, lv_args 0 a, [])
  | _ => (0, 0, 0, [], [])
theorem pX6_makeBench_0 {Γ : CT} (hC : Ctx Γ "SpiritWall$State" cX6_makeBench 3 none rmX6_makeBench) (hnt : NT Γ) (J : JT) (hJ : ∀ L a, Cor Γ 3 (lX6_makeBench L a).1 (lX6_makeBench L a).2.1 (lX6_makeBench L a).2.2.1 (lX6_makeBench L a).2.2.2.1 (lX6_makeBench L a).2.2.2.2 (J L a)) (a : List Value) : Cor Γ 3 0 0 0 (lv_args 0 a) [] (bX6_makeBench_0 J a) := by
  unfold bX6_makeBench_0
  split
  · rename_i x0 x1 x2
    refine c_sub [0, 1, 2] rfl (loc' := [(0, .ref x0), (1, .int x1), (2, .int x2)]) ?_
    refine q_aload_n hC 0 dX6_makeBench_0 rfl rfl ?_
    refine q_getR hC (by decide) (by decide) rfl w_13 dX6_makeBench_1 (fun r1 => ?_)
    refine q_iload_n hC 1 dX6_makeBench_4 rfl rfl ?_
    refine q_iconst hC dX6_makeBench_5 rfl ?_
    refine q_cNV hC hnt (stk := []) (as := [.ref r1, .int x1, .int 1]) sX10_put nX10_put rfl w_246 w_187 w_27 w_186 (Nat.le_of_ble_eq_true rfl) dX6_makeBench_6 rfl ?_
    refine q_aload_n hC 0 dX6_makeBench_9 rfl rfl ?_
    refine q_iload_n hC 1 dX6_makeBench_10 rfl rfl ?_
    refine q_iload_n hC 2 dX6_makeBench_11 rfl rfl ?_
    refine q_cVV hC hnt (stk := []) (as := [.int x1, .int x2]) sX6_putHeight (ci := 6) (by decide) rfl nX6_putHeight rfl w_247 w_249 w_250 w_35 w_248 (Nat.le_of_ble_eq_true rfl) dX6_makeBench_12 rfl ?_
    exact q_vret hC dX6_makeBench_15 (Nat.le_of_ble_eq_true rfl) (Nat.le_of_ble_eq_true rfl)
  · exact c_no
theorem sX6_makeBench : Snd yX6_makeBench (.code yX6_makeBench cX6_makeBench 3 none) rmX6_makeBench SX6_makeBench := by
  refine Snd.of lX6_makeBench (by decide +kernel) (fun _ => rfl) ?_
  intro Γ hC hnt hnm J hJ L a
  match L with
  | 0 => exact pX6_makeBench_0 hC hnt J hJ a
  | L + 1 => exact c_no
/-! SpiritWall$Reader.readMark()Z -/
theorem dX5_readMark_0 : decode cX5_readMark 0 = .ok (.aload_n 0, 1) := by decide +kernel
theorem dX5_readMark_1 : decode cX5_readMark 1 = .ok (.getfield 12, 3) := by decide +kernel
theorem dX5_readMark_4 : decode cX5_readMark 4 = .ok (.getfield 48, 3) := by decide +kernel
theorem dX5_readMark_7 : decode cX5_readMark 7 = .ok (.bipush 12, 2) := by decide +kernel
theorem dX5_readMark_9 : decode cX5_readMark 9 = .ok (.if_icmp .lt 9, 3) := by decide +kernel
theorem dX5_readMark_12 : decode cX5_readMark 12 = .ok (.aload_n 0, 1) := by decide +kernel
theorem dX5_readMark_13 : decode cX5_readMark 13 = .ok (.iconst 5, 1) := by decide +kernel
theorem dX5_readMark_14 : decode cX5_readMark 14 = .ok (.invokevirtual 74, 3) := by decide +kernel
theorem dX5_readMark_17 : decode cX5_readMark 17 = .ok (.ireturn, 1) := by decide +kernel
theorem dX5_readMark_18 : decode cX5_readMark 18 = .ok (.aload_n 0, 1) := by decide +kernel
theorem dX5_readMark_19 : decode cX5_readMark 19 = .ok (.getfield 44, 3) := by decide +kernel
theorem dX5_readMark_22 : decode cX5_readMark 22 = .ok (.invokevirtual 78, 3) := by decide +kernel
theorem dX5_readMark_25 : decode cX5_readMark 25 = .ok (.aload_n 0, 1) := by decide +kernel
theorem dX5_readMark_26 : decode cX5_readMark 26 = .ok (.getfield 44, 3) := by decide +kernel
theorem dX5_readMark_29 : decode cX5_readMark 29 = .ok (.getfield 61, 3) := by decide +kernel
theorem dX5_readMark_32 : decode cX5_readMark 32 = .ok (.bipush 11, 2) := by decide +kernel
theorem dX5_readMark_34 : decode cX5_readMark 34 = .ok (.if_icmp .eq 9, 3) := by decide +kernel
theorem dX5_readMark_37 : decode cX5_readMark 37 = .ok (.aload_n 0, 1) := by decide +kernel
theorem dX5_readMark_38 : decode cX5_readMark 38 = .ok (.iconst 1, 1) := by decide +kernel
theorem dX5_readMark_39 : decode cX5_readMark 39 = .ok (.invokevirtual 74, 3) := by decide +kernel
theorem dX5_readMark_42 : decode cX5_readMark 42 = .ok (.ireturn, 1) := by decide +kernel
theorem dX5_readMark_43 : decode cX5_readMark 43 = .ok (.aload_n 0, 1) := by decide +kernel
theorem dX5_readMark_44 : decode cX5_readMark 44 = .ok (.getfield 12, 3) := by decide +kernel
theorem dX5_readMark_47 : decode cX5_readMark 47 = .ok (.aload_n 0, 1) := by decide +kernel
theorem dX5_readMark_48 : decode cX5_readMark 48 = .ok (.getfield 44, 3) := by decide +kernel
theorem dX5_readMark_51 : decode cX5_readMark 51 = .ok (.getfield 94, 3) := by decide +kernel
theorem dX5_readMark_54 : decode cX5_readMark 54 = .ok (.invokevirtual 97, 3) := by decide +kernel
theorem dX5_readMark_57 : decode cX5_readMark 57 = .ok (.iconst (-1), 1) := by decide +kernel
theorem dX5_readMark_58 : decode cX5_readMark 58 = .ok (.if_icmp .eq 9, 3) := by decide +kernel
theorem dX5_readMark_61 : decode cX5_readMark 61 = .ok (.aload_n 0, 1) := by decide +kernel
theorem dX5_readMark_62 : decode cX5_readMark 62 = .ok (.iconst 3, 1) := by decide +kernel
theorem dX5_readMark_63 : decode cX5_readMark 63 = .ok (.invokevirtual 74, 3) := by decide +kernel
theorem dX5_readMark_66 : decode cX5_readMark 66 = .ok (.ireturn, 1) := by decide +kernel
theorem dX5_readMark_67 : decode cX5_readMark 67 = .ok (.aload_n 0, 1) := by decide +kernel
theorem dX5_readMark_68 : decode cX5_readMark 68 = .ok (.getfield 44, 3) := by decide +kernel
theorem dX5_readMark_71 : decode cX5_readMark 71 = .ok (.getfield 94, 3) := by decide +kernel
theorem dX5_readMark_74 : decode cX5_readMark 74 = .ok (.istore_n 1, 1) := by decide +kernel
theorem dX5_readMark_75 : decode cX5_readMark 75 = .ok (.aload_n 0, 1) := by decide +kernel
theorem dX5_readMark_76 : decode cX5_readMark 76 = .ok (.getfield 44, 3) := by decide +kernel
theorem dX5_readMark_79 : decode cX5_readMark 79 = .ok (.invokevirtual 78, 3) := by decide +kernel
theorem dX5_readMark_82 : decode cX5_readMark 82 = .ok (.aload_n 0, 1) := by decide +kernel
theorem dX5_readMark_83 : decode cX5_readMark 83 = .ok (.getfield 44, 3) := by decide +kernel
theorem dX5_readMark_86 : decode cX5_readMark 86 = .ok (.getfield 61, 3) := by decide +kernel
theorem dX5_readMark_89 : decode cX5_readMark 89 = .ok (.bipush 12, 2) := by decide +kernel
theorem dX5_readMark_91 : decode cX5_readMark 91 = .ok (.if_icmp .eq 9, 3) := by decide +kernel
theorem dX5_readMark_94 : decode cX5_readMark 94 = .ok (.aload_n 0, 1) := by decide +kernel
theorem dX5_readMark_95 : decode cX5_readMark 95 = .ok (.iconst 1, 1) := by decide +kernel
theorem dX5_readMark_96 : decode cX5_readMark 96 = .ok (.invokevirtual 74, 3) := by decide +kernel
theorem dX5_readMark_99 : decode cX5_readMark 99 = .ok (.ireturn, 1) := by decide +kernel
theorem dX5_readMark_100 : decode cX5_readMark 100 = .ok (.aload_n 0, 1) := by decide +kernel
theorem dX5_readMark_101 : decode cX5_readMark 101 = .ok (.getfield 12, 3) := by decide +kernel
theorem dX5_readMark_104 : decode cX5_readMark 104 = .ok (.aload_n 0, 1) := by decide +kernel
theorem dX5_readMark_105 : decode cX5_readMark 105 = .ok (.getfield 44, 3) := by decide +kernel
theorem dX5_readMark_108 : decode cX5_readMark 108 = .ok (.getfield 101, 3) := by decide +kernel
theorem dX5_readMark_111 : decode cX5_readMark 111 = .ok (.invokevirtual 104, 3) := by decide +kernel
theorem dX5_readMark_114 : decode cX5_readMark 114 = .ok (.iconst (-1), 1) := by decide +kernel
theorem dX5_readMark_115 : decode cX5_readMark 115 = .ok (.if_icmp .eq 9, 3) := by decide +kernel
theorem dX5_readMark_118 : decode cX5_readMark 118 = .ok (.aload_n 0, 1) := by decide +kernel
theorem dX5_readMark_119 : decode cX5_readMark 119 = .ok (.iconst 3, 1) := by decide +kernel
theorem dX5_readMark_120 : decode cX5_readMark 120 = .ok (.invokevirtual 74, 3) := by decide +kernel
theorem dX5_readMark_123 : decode cX5_readMark 123 = .ok (.ireturn, 1) := by decide +kernel
theorem dX5_readMark_124 : decode cX5_readMark 124 = .ok (.aload_n 0, 1) := by decide +kernel
theorem dX5_readMark_125 : decode cX5_readMark 125 = .ok (.getfield 12, 3) := by decide +kernel
theorem dX5_readMark_128 : decode cX5_readMark 128 = .ok (.iload_n 1, 1) := by decide +kernel
theorem dX5_readMark_129 : decode cX5_readMark 129 = .ok (.aload_n 0, 1) := by decide +kernel
theorem dX5_readMark_130 : decode cX5_readMark 130 = .ok (.getfield 44, 3) := by decide +kernel
theorem dX5_readMark_133 : decode cX5_readMark 133 = .ok (.getfield 101, 3) := by decide +kernel
theorem dX5_readMark_136 : decode cX5_readMark 136 = .ok (.invokevirtual 107, 3) := by decide +kernel
theorem dX5_readMark_139 : decode cX5_readMark 139 = .ok (.istore_n 2, 1) := by decide +kernel
theorem dX5_readMark_140 : decode cX5_readMark 140 = .ok (.aload_n 0, 1) := by decide +kernel
theorem dX5_readMark_141 : decode cX5_readMark 141 = .ok (.getfield 44, 3) := by decide +kernel
theorem dX5_readMark_144 : decode cX5_readMark 144 = .ok (.invokevirtual 78, 3) := by decide +kernel
theorem dX5_readMark_147 : decode cX5_readMark 147 = .ok (.aload_n 0, 1) := by decide +kernel
theorem dX5_readMark_148 : decode cX5_readMark 148 = .ok (.getfield 44, 3) := by decide +kernel
theorem dX5_readMark_151 : decode cX5_readMark 151 = .ok (.getfield 61, 3) := by decide +kernel
theorem dX5_readMark_154 : decode cX5_readMark 154 = .ok (.iconst 1, 1) := by decide +kernel
theorem dX5_readMark_155 : decode cX5_readMark 155 = .ok (.if_icmp .eq 5, 3) := by decide +kernel
theorem dX5_readMark_158 : decode cX5_readMark 158 = .ok (.iconst 1, 1) := by decide +kernel
theorem dX5_readMark_159 : decode cX5_readMark 159 = .ok (.ireturn, 1) := by decide +kernel
theorem dX5_readMark_160 : decode cX5_readMark 160 = .ok (.aload_n 0, 1) := by decide +kernel
theorem dX5_readMark_161 : decode cX5_readMark 161 = .ok (.getfield 44, 3) := by decide +kernel
theorem dX5_readMark_164 : decode cX5_readMark 164 = .ok (.invokevirtual 78, 3) := by decide +kernel
theorem dX5_readMark_167 : decode cX5_readMark 167 = .ok (.aload_n 0, 1) := by decide +kernel
theorem dX5_readMark_168 : decode cX5_readMark 168 = .ok (.iconst 1, 1) := by decide +kernel
theorem dX5_readMark_169 : decode cX5_readMark 169 = .ok (.ldc 111, 2) := by decide +kernel
theorem dX5_readMark_171 : decode cX5_readMark 171 = .ok (.ldc 112, 2) := by decide +kernel
theorem dX5_readMark_173 : decode cX5_readMark 173 = .ok (.invokevirtual 113, 3) := by decide +kernel
theorem dX5_readMark_176 : decode cX5_readMark 176 = .ok (.ifCond .ne 5, 3) := by decide +kernel
theorem dX5_readMark_179 : decode cX5_readMark 179 = .ok (.iconst 0, 1) := by decide +kernel
theorem dX5_readMark_180 : decode cX5_readMark 180 = .ok (.ireturn, 1) := by decide +kernel
theorem dX5_readMark_181 : decode cX5_readMark 181 = .ok (.aload_n 0, 1) := by decide +kernel
theorem dX5_readMark_182 : decode cX5_readMark 182 = .ok (.getfield 21, 3) := by decide +kernel
theorem dX5_readMark_185 : decode cX5_readMark 185 = .ok (.iload_n 2, 1) := by decide +kernel
theorem dX5_readMark_186 : decode cX5_readMark 186 = .ok (.aload_n 0, 1) := by decide +kernel
theorem dX5_readMark_187 : decode cX5_readMark 187 = .ok (.getfield 36, 3) := by decide +kernel
theorem dX5_readMark_190 : decode cX5_readMark 190 = .ok (.invokevirtual 117, 3) := by decide +kernel
theorem dX5_readMark_193 : decode cX5_readMark 193 = .ok (.iconst 1, 1) := by decide +kernel
theorem dX5_readMark_194 : decode cX5_readMark 194 = .ok (.ireturn, 1) := by decide +kernel
def rmX5_readMark : Room := rmk 10 0 0 237
theorem nX5_readMark : nameOk yX5_readMark 0 = true := by decide +kernel
def bX5_readMark_0 (J : JT) : List Value → Sem
  | [.ref x0] =>
    gR 5 1 x0 fun r1 =>
    gI 9 0 r1 fun v2 =>
    br (v2 < (12 : Int32))
    (gR 5 0 x0 fun r3 =>
    ob 8 r3 (cV SX8_advance [.ref r3] <|
    gR 5 0 x0 fun r4 =>
    gI 8 2 r4 fun v5 =>
    br (v5 = (11 : Int32))
    (gR 5 1 x0 fun r6 =>
    gR 5 0 x0 fun r7 =>
    gI 8 5 r7 fun v8 =>
    ob 9 r6 (cI SX9_named [.ref r6, .int v8] fun v9 =>
    br (v9 = ((-1) : Int32))
    (gR 5 0 x0 fun r10 =>
    gI 8 5 r10 fun v11 =>
    gR 5 0 x0 fun r12 =>
    ob 8 r12 (cV SX8_advance [.ref r12] <|
    gR 5 0 x0 fun r13 =>
    gI 8 2 r13 fun v14 =>
    br (v14 = (12 : Int32))
    (gR 5 1 x0 fun r15 =>
    gR 5 0 x0 fun r16 =>
    gI 8 6 r16 fun v17 =>
    ob 9 r15 (cI SX9_placedAt [.ref r15, .int v17] fun v18 =>
    br (v18 = ((-1) : Int32))
    (gR 5 1 x0 fun r19 =>
    gR 5 0 x0 fun r20 =>
    gI 8 6 r20 fun v21 =>
    ob 9 r19 (cI SX9_add [.ref r19, .int v11, .int v21] fun v22 =>
    gR 5 0 x0 fun r23 =>
    ob 8 r23 (cV SX8_advance [.ref r23] <|
    gR 5 0 x0 fun r24 =>
    gI 8 2 r24 fun v25 =>
    br (v25 = (1 : Int32))
    (gR 5 0 x0 fun r26 =>
    ob 8 r26 (cV SX8_advance [.ref r26] <|
    ob 5 x0 (cI SX5_readNumber [.ref x0, .int 1, .int (-99999), .int 99999] fun v27 =>
    br (v27 = 0)
    (rZ 0)
    (gR 5 2 x0 fun r28 =>
    gI 5 6 x0 fun v29 =>
    ob 6 r28 (cV SX6_makeBench [.ref r28, .int v22, .int v29] <|
    rZ 1)))))
    (rZ 1))))
    (ob 5 x0 (cI SX5_fail [.ref x0, .int 3] fun v30 =>
    rZ v30))))
    (ob 5 x0 (cI SX5_fail [.ref x0, .int 1] fun v31 =>
    rZ v31))))
    (ob 5 x0 (cI SX5_fail [.ref x0, .int 3] fun v32 =>
    rZ v32))))
    (ob 5 x0 (cI SX5_fail [.ref x0, .int 1] fun v33 =>
    rZ v33))))
    (ob 5 x0 (cI SX5_fail [.ref x0, .int 5] fun v34 =>
    rZ v34))
  | _ => no
def bX5_readMark (J : JT) : JT := fun L a => match L with
  | 0 => bX5_readMark_0 J a
  | _ => no
def SX5_readMark : ST := mk 3 bX5_readMark
def lX5_readMark (L : Nat) (a : List Value) : Nat × Nat × Nat × List (Nat × Value) × List Value := match L with
  | 0 => (0, 0, 0, lv_args 0 a, [])
  | _ => (0, 0, 0, [], [])
theorem pX5_readMark_0 {Γ : CT} (hC : Ctx Γ "SpiritWall$Reader" cX5_readMark 3 (some .boolean) rmX5_readMark) (hnt : NT Γ) (J : JT) (hJ : ∀ L a, Cor Γ 3 (lX5_readMark L a).1 (lX5_readMark L a).2.1 (lX5_readMark L a).2.2.1 (lX5_readMark L a).2.2.2.1 (lX5_readMark L a).2.2.2.2 (J L a)) (a : List Value) : Cor Γ 3 0 0 0 (lv_args 0 a) [] (bX5_readMark_0 J a) := by
  unfold bX5_readMark_0
  split
  · rename_i x0
    refine c_sub [0] rfl (loc' := [(0, .ref x0)]) ?_
    refine q_aload_n hC 0 dX5_readMark_0 rfl rfl ?_
    refine q_getR hC (by decide) (by decide) rfl w_66 dX5_readMark_1 (fun r1 => ?_)
    refine q_getI hC (by decide) (by decide) rfl w_251 dX5_readMark_4 (fun v2 => ?_)
    refine q_bipush hC (v := 12) dX5_readMark_7 rfl ?_
    refine q_ic_lt hC 18 dX5_readMark_9 rfl ?_ ?_
    · refine q_aload_n hC 0 dX5_readMark_18 rfl rfl ?_
      refine q_getR hC (by decide) (by decide) rfl w_77 dX5_readMark_19 (fun r3 => ?_)
      refine q_cVV hC hnt (stk := []) (as := []) sX8_advance (ci := 8) (by decide) rfl nX8_advance rfl w_239 w_230 w_231 w_76 w_229 (Nat.le_of_ble_eq_true rfl) dX5_readMark_22 rfl ?_
      refine q_aload_n hC 0 dX5_readMark_25 rfl rfl ?_
      refine q_getR hC (by decide) (by decide) rfl w_77 dX5_readMark_26 (fun r4 => ?_)
      refine q_getI hC (by decide) (by decide) rfl w_240 dX5_readMark_29 (fun v5 => ?_)
      refine q_bipush hC (v := 11) dX5_readMark_32 rfl ?_
      refine q_ic_eq hC 43 dX5_readMark_34 rfl ?_ ?_
      · refine q_aload_n hC 0 dX5_readMark_43 rfl rfl ?_
        refine q_getR hC (by decide) (by decide) rfl w_66 dX5_readMark_44 (fun r6 => ?_)
        refine q_aload_n hC 0 dX5_readMark_47 rfl rfl ?_
        refine q_getR hC (by decide) (by decide) rfl w_77 dX5_readMark_48 (fun r7 => ?_)
        refine q_getI hC (by decide) (by decide) rfl w_252 dX5_readMark_51 (fun v8 => ?_)
        refine q_cVI hC hnt (stk := []) (as := [.int v8]) sX9_named (ci := 9) (by decide) rfl nX9_named rfl w_253 w_255 w_256 w_65 w_254 (Nat.le_of_ble_eq_true rfl) dX5_readMark_54 rfl (fun v9 => ?_)
        refine q_iconst hC dX5_readMark_57 rfl ?_
        refine q_ic_eq hC 67 dX5_readMark_58 rfl ?_ ?_
        · refine q_aload_n hC 0 dX5_readMark_67 rfl rfl ?_
          refine q_getR hC (by decide) (by decide) rfl w_77 dX5_readMark_68 (fun r10 => ?_)
          refine q_getI hC (by decide) (by decide) rfl w_252 dX5_readMark_71 (fun v11 => ?_)
          refine q_istore_nA hC (loc' := [(1, .int v11), (0, .ref x0)]) dX5_readMark_74 rfl (Nat.le_of_ble_eq_true rfl) rfl ?_
          refine q_aload_n hC 1 dX5_readMark_75 rfl rfl ?_
          refine q_getR hC (by decide) (by decide) rfl w_77 dX5_readMark_76 (fun r12 => ?_)
          refine q_cVV hC hnt (stk := []) (as := []) sX8_advance (ci := 8) (by decide) rfl nX8_advance rfl w_239 w_230 w_231 w_76 w_229 (Nat.le_of_ble_eq_true rfl) dX5_readMark_79 rfl ?_
          refine q_aload_n hC 1 dX5_readMark_82 rfl rfl ?_
          refine q_getR hC (by decide) (by decide) rfl w_77 dX5_readMark_83 (fun r13 => ?_)
          refine q_getI hC (by decide) (by decide) rfl w_240 dX5_readMark_86 (fun v14 => ?_)
          refine q_bipush hC (v := 12) dX5_readMark_89 rfl ?_
          refine q_ic_eq hC 100 dX5_readMark_91 rfl ?_ ?_
          · refine q_aload_n hC 1 dX5_readMark_100 rfl rfl ?_
            refine q_getR hC (by decide) (by decide) rfl w_66 dX5_readMark_101 (fun r15 => ?_)
            refine q_aload_n hC 1 dX5_readMark_104 rfl rfl ?_
            refine q_getR hC (by decide) (by decide) rfl w_77 dX5_readMark_105 (fun r16 => ?_)
            refine q_getI hC (by decide) (by decide) rfl w_241 dX5_readMark_108 (fun v17 => ?_)
            refine q_cVI hC hnt (stk := []) (as := [.int v17]) sX9_placedAt (ci := 9) (by decide) rfl nX9_placedAt rfl w_257 w_259 w_260 w_65 w_258 (Nat.le_of_ble_eq_true rfl) dX5_readMark_111 rfl (fun v18 => ?_)
            refine q_iconst hC dX5_readMark_114 rfl ?_
            refine q_ic_eq hC 124 dX5_readMark_115 rfl ?_ ?_
            · refine q_aload_n hC 1 dX5_readMark_124 rfl rfl ?_
              refine q_getR hC (by decide) (by decide) rfl w_66 dX5_readMark_125 (fun r19 => ?_)
              refine q_iload_n hC 0 dX5_readMark_128 rfl rfl ?_
              refine q_aload_n hC 1 dX5_readMark_129 rfl rfl ?_
              refine q_getR hC (by decide) (by decide) rfl w_77 dX5_readMark_130 (fun r20 => ?_)
              refine q_getI hC (by decide) (by decide) rfl w_241 dX5_readMark_133 (fun v21 => ?_)
              refine q_cVI hC hnt (stk := []) (as := [.int v11, .int v21]) sX9_add (ci := 9) (by decide) rfl nX9_add rfl w_261 w_263 w_264 w_65 w_262 (Nat.le_of_ble_eq_true rfl) dX5_readMark_136 rfl (fun v22 => ?_)
              refine q_istore_nA hC (loc' := [(2, .int v22), (1, .int v11), (0, .ref x0)]) dX5_readMark_139 rfl (Nat.le_of_ble_eq_true rfl) rfl ?_
              refine q_aload_n hC 2 dX5_readMark_140 rfl rfl ?_
              refine q_getR hC (by decide) (by decide) rfl w_77 dX5_readMark_141 (fun r23 => ?_)
              refine q_cVV hC hnt (stk := []) (as := []) sX8_advance (ci := 8) (by decide) rfl nX8_advance rfl w_239 w_230 w_231 w_76 w_229 (Nat.le_of_ble_eq_true rfl) dX5_readMark_144 rfl ?_
              refine q_aload_n hC 2 dX5_readMark_147 rfl rfl ?_
              refine q_getR hC (by decide) (by decide) rfl w_77 dX5_readMark_148 (fun r24 => ?_)
              refine q_getI hC (by decide) (by decide) rfl w_240 dX5_readMark_151 (fun v25 => ?_)
              refine q_iconst hC dX5_readMark_154 rfl ?_
              refine q_ic_eq hC 160 dX5_readMark_155 rfl ?_ ?_
              · refine q_aload_n hC 2 dX5_readMark_160 rfl rfl ?_
                refine q_getR hC (by decide) (by decide) rfl w_77 dX5_readMark_161 (fun r26 => ?_)
                refine q_cVV hC hnt (stk := []) (as := []) sX8_advance (ci := 8) (by decide) rfl nX8_advance rfl w_239 w_230 w_231 w_76 w_229 (Nat.le_of_ble_eq_true rfl) dX5_readMark_164 rfl ?_
                refine q_aload_n hC 2 dX5_readMark_167 rfl rfl ?_
                refine q_iconst hC dX5_readMark_168 rfl ?_
                refine q_ldc hC w_265 dX5_readMark_169 ?_
                refine q_ldc hC w_266 dX5_readMark_171 ?_
                refine q_cVI hC hnt (stk := []) (as := [.int 1, .int (-99999), .int 99999]) sX5_readNumber (ci := 5) (by decide) rfl nX5_readNumber rfl w_267 w_269 w_270 w_144 w_268 (Nat.le_of_ble_eq_true rfl) dX5_readMark_173 rfl (fun v27 => ?_)
                refine q_if_ne hC 181 dX5_readMark_176 rfl ?_ ?_
                · refine q_aload_n hC 2 dX5_readMark_181 rfl rfl ?_
                  refine q_getR hC (by decide) (by decide) rfl w_68 dX5_readMark_182 (fun r28 => ?_)
                  refine q_iload_n hC 0 dX5_readMark_185 rfl rfl ?_
                  refine q_aload_n hC 2 dX5_readMark_186 rfl rfl ?_
                  refine q_getI hC (by decide) (by decide) rfl w_72 dX5_readMark_187 (fun v29 => ?_)
                  refine q_cVV hC hnt (stk := []) (as := [.int v22, .int v29]) sX6_makeBench (ci := 6) (by decide) rfl nX6_makeBench rfl w_271 w_273 w_274 w_35 w_272 (Nat.le_of_ble_eq_true rfl) dX5_readMark_190 rfl ?_
                  refine q_iconst hC dX5_readMark_193 rfl ?_
                  exact q_zret hC dX5_readMark_194 (Nat.le_of_ble_eq_true rfl) (Nat.le_of_ble_eq_true rfl)
                · refine q_iconst hC dX5_readMark_179 rfl ?_
                  exact q_zret hC dX5_readMark_180 (Nat.le_of_ble_eq_true rfl) (Nat.le_of_ble_eq_true rfl)
              · refine q_iconst hC dX5_readMark_158 rfl ?_
                exact q_zret hC dX5_readMark_159 (Nat.le_of_ble_eq_true rfl) (Nat.le_of_ble_eq_true rfl)
            · refine q_aload_n hC 1 dX5_readMark_118 rfl rfl ?_
              refine q_iconst hC dX5_readMark_119 rfl ?_
              refine q_cVI hC hnt (stk := []) (as := [.int 3]) sX5_fail (ci := 5) (by decide) rfl nX5_fail rfl w_242 w_244 w_245 w_144 w_243 (Nat.le_of_ble_eq_true rfl) dX5_readMark_120 rfl (fun v30 => ?_)
              exact q_zret hC dX5_readMark_123 (Nat.le_of_ble_eq_true rfl) (Nat.le_of_ble_eq_true rfl)
          · refine q_aload_n hC 1 dX5_readMark_94 rfl rfl ?_
            refine q_iconst hC dX5_readMark_95 rfl ?_
            refine q_cVI hC hnt (stk := []) (as := [.int 1]) sX5_fail (ci := 5) (by decide) rfl nX5_fail rfl w_242 w_244 w_245 w_144 w_243 (Nat.le_of_ble_eq_true rfl) dX5_readMark_96 rfl (fun v31 => ?_)
            exact q_zret hC dX5_readMark_99 (Nat.le_of_ble_eq_true rfl) (Nat.le_of_ble_eq_true rfl)
        · refine q_aload_n hC 0 dX5_readMark_61 rfl rfl ?_
          refine q_iconst hC dX5_readMark_62 rfl ?_
          refine q_cVI hC hnt (stk := []) (as := [.int 3]) sX5_fail (ci := 5) (by decide) rfl nX5_fail rfl w_242 w_244 w_245 w_144 w_243 (Nat.le_of_ble_eq_true rfl) dX5_readMark_63 rfl (fun v32 => ?_)
          exact q_zret hC dX5_readMark_66 (Nat.le_of_ble_eq_true rfl) (Nat.le_of_ble_eq_true rfl)
      · refine q_aload_n hC 0 dX5_readMark_37 rfl rfl ?_
        refine q_iconst hC dX5_readMark_38 rfl ?_
        refine q_cVI hC hnt (stk := []) (as := [.int 1]) sX5_fail (ci := 5) (by decide) rfl nX5_fail rfl w_242 w_244 w_245 w_144 w_243 (Nat.le_of_ble_eq_true rfl) dX5_readMark_39 rfl (fun v33 => ?_)
        exact q_zret hC dX5_readMark_42 (Nat.le_of_ble_eq_true rfl) (Nat.le_of_ble_eq_true rfl)
    · refine q_aload_n hC 0 dX5_readMark_12 rfl rfl ?_
      refine q_iconst hC dX5_readMark_13 rfl ?_
      refine q_cVI hC hnt (stk := []) (as := [.int 5]) sX5_fail (ci := 5) (by decide) rfl nX5_fail rfl w_242 w_244 w_245 w_144 w_243 (Nat.le_of_ble_eq_true rfl) dX5_readMark_14 rfl (fun v34 => ?_)
      exact q_zret hC dX5_readMark_17 (Nat.le_of_ble_eq_true rfl) (Nat.le_of_ble_eq_true rfl)
  · exact c_no
theorem sX5_readMark : Snd yX5_readMark (.code yX5_readMark cX5_readMark 3 (some .boolean)) rmX5_readMark SX5_readMark := by
  refine Snd.of lX5_readMark (by decide +kernel) (fun _ => rfl) ?_
  intro Γ hC hnt hnm J hJ L a
  match L with
  | 0 => exact pX5_readMark_0 hC hnt J hJ a
  | L + 1 => exact c_no
