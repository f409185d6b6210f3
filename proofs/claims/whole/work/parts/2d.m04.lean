/-! SpiritWall$Edges.warmthOf(I)I -/
theorem dX0_warmthOf_0 : decode cX0_warmthOf 0 = .ok (.aload_n 0, 1) := by decide +kernel
theorem dX0_warmthOf_1 : decode cX0_warmthOf 1 = .ok (.getfield 62, 3) := by decide +kernel
theorem dX0_warmthOf_4 : decode cX0_warmthOf 4 = .ok (.getfield 191, 3) := by decide +kernel
theorem dX0_warmthOf_7 : decode cX0_warmthOf 7 = .ok (.iload_n 1, 1) := by decide +kernel
theorem dX0_warmthOf_8 : decode cX0_warmthOf 8 = .ok (.invokestatic 102, 3) := by decide +kernel
theorem dX0_warmthOf_11 : decode cX0_warmthOf 11 = .ok (.bipush 20, 2) := by decide +kernel
theorem dX0_warmthOf_13 : decode cX0_warmthOf 13 = .ok (.isub, 1) := by decide +kernel
theorem dX0_warmthOf_14 : decode cX0_warmthOf 14 = .ok (.i2l, 1) := by decide +kernel
theorem dX0_warmthOf_15 : decode cX0_warmthOf 15 = .ok (.lstore_n 2, 1) := by decide +kernel
theorem dX0_warmthOf_16 : decode cX0_warmthOf 16 = .ok (.aload_n 0, 1) := by decide +kernel
theorem dX0_warmthOf_17 : decode cX0_warmthOf 17 = .ok (.getfield 62, 3) := by decide +kernel
theorem dX0_warmthOf_20 : decode cX0_warmthOf 20 = .ok (.iconst 2, 1) := by decide +kernel
theorem dX0_warmthOf_21 : decode cX0_warmthOf 21 = .ok (.invokevirtual 87, 3) := by decide +kernel
theorem dX0_warmthOf_24 : decode cX0_warmthOf 24 = .ok (.i2l, 1) := by decide +kernel
theorem dX0_warmthOf_25 : decode cX0_warmthOf 25 = .ok (.lload_n 2, 1) := by decide +kernel
theorem dX0_warmthOf_26 : decode cX0_warmthOf 26 = .ok (.lmul, 1) := by decide +kernel
theorem dX0_warmthOf_27 : decode cX0_warmthOf 27 = .ok (.aload_n 0, 1) := by decide +kernel
theorem dX0_warmthOf_28 : decode cX0_warmthOf 28 = .ok (.getfield 18, 3) := by decide +kernel
theorem dX0_warmthOf_31 : decode cX0_warmthOf 31 = .ok (.iload_n 1, 1) := by decide +kernel
theorem dX0_warmthOf_32 : decode cX0_warmthOf 32 = .ok (.invokestatic 102, 3) := by decide +kernel
theorem dX0_warmthOf_35 : decode cX0_warmthOf 35 = .ok (.i2l, 1) := by decide +kernel
theorem dX0_warmthOf_36 : decode cX0_warmthOf 36 = .ok (.lmul, 1) := by decide +kernel
theorem dX0_warmthOf_37 : decode cX0_warmthOf 37 = .ok (.ldc2_w 194, 3) := by decide +kernel
theorem dX0_warmthOf_40 : decode cX0_warmthOf 40 = .ok (.invokestatic 170, 3) := by decide +kernel
theorem dX0_warmthOf_43 : decode cX0_warmthOf 43 = .ok (.l2i, 1) := by decide +kernel
theorem dX0_warmthOf_44 : decode cX0_warmthOf 44 = .ok (.ireturn, 1) := by decide +kernel
def rmX0_warmthOf : Room := rmk 8 0 0 198
theorem nX0_warmthOf : nameOk yX0_warmthOf 1 = true := by decide +kernel
def bX0_warmthOf_0 (J : JT) : List Value → Sem
  | [.ref x0, .int x1] =>
    gR 0 1 x0 fun r1 =>
    gR 6 11 r1 fun r2 =>
    cI SX10_cell [.ref r2, .int x1] fun v3 =>
    lJ ((v3 - 20).toInt64) fun y2_4 =>
    gR 0 1 x0 fun r5 =>
    ob 6 r5 (cI SX6_settingOf [.ref r5, .int 2] fun v6 =>
    gR 0 4 x0 fun r7 =>
    cI SX10_cell [.ref r7, .int x1] fun v8 =>
    cJ SX10_quotient [.long (((v6.toInt64) * y2_4) * (v8.toInt64)), .long 100000] fun v9 =>
    rI (v9.toInt32))
  | _ => no
def bX0_warmthOf (J : JT) : JT := fun L a => match L with
  | 0 => bX0_warmthOf_0 J a
  | _ => no
def SX0_warmthOf : ST := mk 4 bX0_warmthOf
def lX0_warmthOf (L : Nat) (a : List Value) : Nat × Nat × Nat × List (Nat × Value) × List Value := match L with
  | 0 => (0, 0, 0, lv_args 0 a, [])
  | _ => (0, 0, 0, [], [])
theorem pX0_warmthOf_0 {Γ : CT} (hC : Ctx Γ "SpiritWall$Edges" cX0_warmthOf 4 (some .int) rmX0_warmthOf) (hnt : NT Γ) (J : JT) (hJ : ∀ L a, Cor Γ 4 (lX0_warmthOf L a).1 (lX0_warmthOf L a).2.1 (lX0_warmthOf L a).2.2.1 (lX0_warmthOf L a).2.2.2.1 (lX0_warmthOf L a).2.2.2.2 (J L a)) (a : List Value) : Cor Γ 4 0 0 0 (lv_args 0 a) [] (bX0_warmthOf_0 J a) := by
  unfold bX0_warmthOf_0
  split
  · rename_i x0 x1
    refine c_sub [0, 1] rfl (loc' := [(0, .ref x0), (1, .int x1)]) ?_
    refine q_aload_n hC 0 dX0_warmthOf_0 rfl rfl ?_
    refine q_getR hC (by decide) (by decide) rfl w_100 dX0_warmthOf_1 (fun r1 => ?_)
    refine q_getR hC (by decide) (by decide) rfl w_361 dX0_warmthOf_4 (fun r2 => ?_)
    refine q_iload_n hC 1 dX0_warmthOf_7 rfl rfl ?_
    refine q_cNI hC hnt (stk := []) (as := [.ref r2, .int x1]) sX10_cell nX10_cell rfl w_352 w_202 w_27 w_201 (Nat.le_of_ble_eq_true rfl) dX0_warmthOf_8 rfl (fun v3 => ?_)
    refine q_bipush hC (v := 20) dX0_warmthOf_11 rfl ?_
    refine q_isub hC dX0_warmthOf_13 ?_
    refine q_i2l hC dX0_warmthOf_14 ?_
    refine q_lstore_n hC (fun y2_4 => [(2, .long y2_4), (0, .ref x0), (1, .int x1)]) dX0_warmthOf_15 rfl (Nat.le_of_ble_eq_true rfl) (fun _ => rfl) (fun y2_4 => ?_)
    refine q_aload_n hC 1 dX0_warmthOf_16 rfl rfl ?_
    refine q_getR hC (by decide) (by decide) rfl w_100 dX0_warmthOf_17 (fun r5 => ?_)
    refine q_iconst hC dX0_warmthOf_20 rfl ?_
    refine q_cVI hC hnt (stk := []) (as := [.int 2]) sX6_settingOf (ci := 6) (by decide) rfl nX6_settingOf rfl w_353 w_355 w_356 w_35 w_354 (Nat.le_of_ble_eq_true rfl) dX0_warmthOf_21 rfl (fun v6 => ?_)
    refine q_i2l hC dX0_warmthOf_24 ?_
    refine q_lload_n hC 0 dX0_warmthOf_25 rfl rfl ?_
    refine q_lmul hC dX0_warmthOf_26 ?_
    refine q_aload_n hC 1 dX0_warmthOf_27 rfl rfl ?_
    refine q_getR hC (by decide) (by decide) rfl w_86 dX0_warmthOf_28 (fun r7 => ?_)
    refine q_iload_n hC 2 dX0_warmthOf_31 rfl rfl ?_
    refine q_cNI hC hnt (stk := [.long ((v6.toInt64) * y2_4)]) (as := [.ref r7, .int x1]) sX10_cell nX10_cell rfl w_352 w_202 w_27 w_201 (Nat.le_of_ble_eq_true rfl) dX0_warmthOf_32 rfl (fun v8 => ?_)
    refine q_i2l hC dX0_warmthOf_35 ?_
    refine q_lmul hC dX0_warmthOf_36 ?_
    refine q_ldc2 hC w_362 dX0_warmthOf_37 ?_
    refine q_cNJ hC hnt (stk := []) (as := [.long (((v6.toInt64) * y2_4) * (v8.toInt64)), .long 100000]) sX10_quotient nX10_quotient rfl w_358 w_360 w_27 w_359 (Nat.le_of_ble_eq_true rfl) dX0_warmthOf_40 rfl (fun v9 => ?_)
    refine q_l2i hC dX0_warmthOf_43 ?_
    exact q_iret hC dX0_warmthOf_44 (Nat.le_of_ble_eq_true rfl) (Nat.le_of_ble_eq_true rfl)
  · exact c_no
theorem sX0_warmthOf : Snd yX0_warmthOf (.code yX0_warmthOf cX0_warmthOf 4 (some .int)) rmX0_warmthOf SX0_warmthOf := by
  refine Snd.of lX0_warmthOf (by decide +kernel) (fun _ => rfl) ?_
  intro Γ hC hnt hnm J hJ L a
  match L with
  | 0 => exact pX0_warmthOf_0 hC hnt J hJ a
  | L + 1 => exact c_no
/-! SpiritWall$Edges.swings(II)I -/
theorem dX0_swings_0 : decode cX0_swings 0 = .ok (.iload_n 0, 1) := by decide +kernel
theorem dX0_swings_1 : decode cX0_swings 1 = .ok (.ineg, 1) := by decide +kernel
theorem dX0_swings_2 : decode cX0_swings 2 = .ok (.i2l, 1) := by decide +kernel
theorem dX0_swings_3 : decode cX0_swings 3 = .ok (.iload_n 1, 1) := by decide +kernel
theorem dX0_swings_4 : decode cX0_swings 4 = .ok (.i2l, 1) := by decide +kernel
theorem dX0_swings_5 : decode cX0_swings 5 = .ok (.invokestatic 170, 3) := by decide +kernel
theorem dX0_swings_8 : decode cX0_swings 8 = .ok (.lneg, 1) := by decide +kernel
theorem dX0_swings_9 : decode cX0_swings 9 = .ok (.l2i, 1) := by decide +kernel
theorem dX0_swings_10 : decode cX0_swings 10 = .ok (.ireturn, 1) := by decide +kernel
def rmX0_swings : Room := rmk 8 0 0 198
theorem nX0_swings : nameOk yX0_swings 2 = true := by decide +kernel
def bX0_swings_0 (J : JT) : List Value → Sem
  | [.int x0, .int x1] =>
    cJ SX10_quotient [.long ((-x0).toInt64), .long (x1.toInt64)] fun v1 =>
    rI ((-v1).toInt32)
  | _ => no
def bX0_swings (J : JT) : JT := fun L a => match L with
  | 0 => bX0_swings_0 J a
  | _ => no
def SX0_swings : ST := mk 2 bX0_swings
def lX0_swings (L : Nat) (a : List Value) : Nat × Nat × Nat × List (Nat × Value) × List Value := match L with
  | 0 => (0, 0, 0, lv_args 0 a, [])
  | _ => (0, 0, 0, [], [])
theorem pX0_swings_0 {Γ : CT} (hC : Ctx Γ "SpiritWall$Edges" cX0_swings 2 (some .int) rmX0_swings) (hnt : NT Γ) (J : JT) (hJ : ∀ L a, Cor Γ 2 (lX0_swings L a).1 (lX0_swings L a).2.1 (lX0_swings L a).2.2.1 (lX0_swings L a).2.2.2.1 (lX0_swings L a).2.2.2.2 (J L a)) (a : List Value) : Cor Γ 2 0 0 0 (lv_args 0 a) [] (bX0_swings_0 J a) := by
  unfold bX0_swings_0
  split
  · rename_i x0 x1
    refine c_sub [0, 1] rfl (loc' := [(0, .int x0), (1, .int x1)]) ?_
    refine q_iload_n hC 0 dX0_swings_0 rfl rfl ?_
    refine q_ineg hC dX0_swings_1 ?_
    refine q_i2l hC dX0_swings_2 ?_
    refine q_iload_n hC 1 dX0_swings_3 rfl rfl ?_
    refine q_i2l hC dX0_swings_4 ?_
    refine q_cNJ hC hnt (stk := []) (as := [.long ((-x0).toInt64), .long (x1.toInt64)]) sX10_quotient nX10_quotient rfl w_358 w_360 w_27 w_359 (Nat.le_of_ble_eq_true rfl) dX0_swings_5 rfl (fun v1 => ?_)
    refine q_lneg hC dX0_swings_8 ?_
    refine q_l2i hC dX0_swings_9 ?_
    exact q_iret hC dX0_swings_10 (Nat.le_of_ble_eq_true rfl) (Nat.le_of_ble_eq_true rfl)
  · exact c_no
theorem sX0_swings : Snd yX0_swings (.code yX0_swings cX0_swings 2 (some .int)) rmX0_swings SX0_swings := by
  refine Snd.of lX0_swings (by decide +kernel) (fun _ => rfl) ?_
  intro Γ hC hnt hnm J hJ L a
  match L with
  | 0 => exact pX0_swings_0 hC hnt J hJ a
  | L + 1 => exact c_no
/-! SpiritWall$Edges.swingsOf(I)I -/
theorem dX0_swingsOf_0 : decode cX0_swingsOf 0 = .ok (.aload_n 0, 1) := by decide +kernel
theorem dX0_swingsOf_1 : decode cX0_swingsOf 1 = .ok (.getfield 18, 3) := by decide +kernel
theorem dX0_swingsOf_4 : decode cX0_swingsOf 4 = .ok (.iload_n 1, 1) := by decide +kernel
theorem dX0_swingsOf_5 : decode cX0_swingsOf 5 = .ok (.invokestatic 102, 3) := by decide +kernel
theorem dX0_swingsOf_8 : decode cX0_swingsOf 8 = .ok (.aload_n 0, 1) := by decide +kernel
theorem dX0_swingsOf_9 : decode cX0_swingsOf 9 = .ok (.getfield 62, 3) := by decide +kernel
theorem dX0_swingsOf_12 : decode cX0_swingsOf 12 = .ok (.iconst 0, 1) := by decide +kernel
theorem dX0_swingsOf_13 : decode cX0_swingsOf 13 = .ok (.invokevirtual 87, 3) := by decide +kernel
theorem dX0_swingsOf_16 : decode cX0_swingsOf 16 = .ok (.invokestatic 181, 3) := by decide +kernel
theorem dX0_swingsOf_19 : decode cX0_swingsOf 19 = .ok (.ireturn, 1) := by decide +kernel
def rmX0_swingsOf : Room := rmk 9 0 0 219
theorem nX0_swingsOf : nameOk yX0_swingsOf 1 = true := by decide +kernel
def bX0_swingsOf_0 (J : JT) : List Value → Sem
  | [.ref x0, .int x1] =>
    gR 0 4 x0 fun r1 =>
    cI SX10_cell [.ref r1, .int x1] fun v2 =>
    gR 0 1 x0 fun r3 =>
    ob 6 r3 (cI SX6_settingOf [.ref r3, .int 0] fun v4 =>
    cI SX0_swings [.int v2, .int v4] fun v5 =>
    rI v5)
  | _ => no
def bX0_swingsOf (J : JT) : JT := fun L a => match L with
  | 0 => bX0_swingsOf_0 J a
  | _ => no
def SX0_swingsOf : ST := mk 2 bX0_swingsOf
def lX0_swingsOf (L : Nat) (a : List Value) : Nat × Nat × Nat × List (Nat × Value) × List Value := match L with
  | 0 => (0, 0, 0, lv_args 0 a, [])
  | _ => (0, 0, 0, [], [])
theorem pX0_swingsOf_0 {Γ : CT} (hC : Ctx Γ "SpiritWall$Edges" cX0_swingsOf 2 (some .int) rmX0_swingsOf) (hnt : NT Γ) (J : JT) (hJ : ∀ L a, Cor Γ 2 (lX0_swingsOf L a).1 (lX0_swingsOf L a).2.1 (lX0_swingsOf L a).2.2.1 (lX0_swingsOf L a).2.2.2.1 (lX0_swingsOf L a).2.2.2.2 (J L a)) (a : List Value) : Cor Γ 2 0 0 0 (lv_args 0 a) [] (bX0_swingsOf_0 J a) := by
  unfold bX0_swingsOf_0
  split
  · rename_i x0 x1
    refine c_sub [0, 1] rfl (loc' := [(0, .ref x0), (1, .int x1)]) ?_
    refine q_aload_n hC 0 dX0_swingsOf_0 rfl rfl ?_
    refine q_getR hC (by decide) (by decide) rfl w_86 dX0_swingsOf_1 (fun r1 => ?_)
    refine q_iload_n hC 1 dX0_swingsOf_4 rfl rfl ?_
    refine q_cNI hC hnt (stk := []) (as := [.ref r1, .int x1]) sX10_cell nX10_cell rfl w_352 w_202 w_27 w_201 (Nat.le_of_ble_eq_true rfl) dX0_swingsOf_5 rfl (fun v2 => ?_)
    refine q_aload_n hC 0 dX0_swingsOf_8 rfl rfl ?_
    refine q_getR hC (by decide) (by decide) rfl w_100 dX0_swingsOf_9 (fun r3 => ?_)
    refine q_iconst hC dX0_swingsOf_12 rfl ?_
    refine q_cVI hC hnt (stk := [.int v2]) (as := [.int 0]) sX6_settingOf (ci := 6) (by decide) rfl nX6_settingOf rfl w_353 w_355 w_356 w_35 w_354 (Nat.le_of_ble_eq_true rfl) dX0_swingsOf_13 rfl (fun v4 => ?_)
    refine q_cSI hC hnt (stk := []) (as := [.int v2, .int v4]) sX0_swings nX0_swings rfl w_363 w_365 w_149 w_364 (Nat.le_of_ble_eq_true rfl) dX0_swingsOf_16 rfl (fun v5 => ?_)
    exact q_iret hC dX0_swingsOf_19 (Nat.le_of_ble_eq_true rfl) (Nat.le_of_ble_eq_true rfl)
  · exact c_no
theorem sX0_swingsOf : Snd yX0_swingsOf (.code yX0_swingsOf cX0_swingsOf 2 (some .int)) rmX0_swingsOf SX0_swingsOf := by
  refine Snd.of lX0_swingsOf (by decide +kernel) (fun _ => rfl) ?_
  intro Γ hC hnt hnm J hJ L a
  match L with
  | 0 => exact pX0_swingsOf_0 hC hnt J hJ a
  | L + 1 => exact c_no
/-! SpiritWall$Edges.isOdd(I)Z -/
theorem dX0_isOdd_0 : decode cX0_isOdd 0 = .ok (.iload_n 0, 1) := by decide +kernel
theorem dX0_isOdd_1 : decode cX0_isOdd 1 = .ok (.iconst 1, 1) := by decide +kernel
theorem dX0_isOdd_2 : decode cX0_isOdd 2 = .ok (.iand, 1) := by decide +kernel
theorem dX0_isOdd_3 : decode cX0_isOdd 3 = .ok (.iconst 1, 1) := by decide +kernel
theorem dX0_isOdd_4 : decode cX0_isOdd 4 = .ok (.if_icmp .ne 7, 3) := by decide +kernel
theorem dX0_isOdd_7 : decode cX0_isOdd 7 = .ok (.iconst 1, 1) := by decide +kernel
theorem dX0_isOdd_8 : decode cX0_isOdd 8 = .ok (.goto 4, 3) := by decide +kernel
theorem dX0_isOdd_11 : decode cX0_isOdd 11 = .ok (.iconst 0, 1) := by decide +kernel
theorem dX0_isOdd_12 : decode cX0_isOdd 12 = .ok (.ireturn, 1) := by decide +kernel
def rmX0_isOdd : Room := rmk 6 0 0 150
theorem nX0_isOdd : nameOk yX0_isOdd 1 = true := by decide +kernel
def bX0_isOdd_0 (J : JT) : List Value → Sem
  | [.int x0] =>
    br ((x0 &&& 1) = (1 : Int32))
    (rZ 1)
    (rZ 0)
  | _ => no
def bX0_isOdd (J : JT) : JT := fun L a => match L with
  | 0 => bX0_isOdd_0 J a
  | _ => no
def SX0_isOdd : ST := mk 1 bX0_isOdd
def lX0_isOdd (L : Nat) (a : List Value) : Nat × Nat × Nat × List (Nat × Value) × List Value := match L with
  | 0 => (0, 0, 0, lv_args 0 a, [])
  | _ => (0, 0, 0, [], [])
theorem pX0_isOdd_0 {Γ : CT} (hC : Ctx Γ "SpiritWall$Edges" cX0_isOdd 1 (some .boolean) rmX0_isOdd) (hnt : NT Γ) (J : JT) (hJ : ∀ L a, Cor Γ 1 (lX0_isOdd L a).1 (lX0_isOdd L a).2.1 (lX0_isOdd L a).2.2.1 (lX0_isOdd L a).2.2.2.1 (lX0_isOdd L a).2.2.2.2 (J L a)) (a : List Value) : Cor Γ 1 0 0 0 (lv_args 0 a) [] (bX0_isOdd_0 J a) := by
  unfold bX0_isOdd_0
  split
  · rename_i x0
    refine c_sub [0] rfl (loc' := [(0, .int x0)]) ?_
    refine q_iload_n hC 0 dX0_isOdd_0 rfl rfl ?_
    refine q_iconst hC dX0_isOdd_1 rfl ?_
    refine q_iand hC dX0_isOdd_2 ?_
    refine q_iconst hC dX0_isOdd_3 rfl ?_
    refine q_ic_ne hC 11 dX0_isOdd_4 rfl ?_ ?_
    · refine q_iconst hC dX0_isOdd_11 rfl ?_
      exact q_zret hC dX0_isOdd_12 (Nat.le_of_ble_eq_true rfl) (Nat.le_of_ble_eq_true rfl)
    · refine q_iconst hC dX0_isOdd_7 rfl ?_
      refine q_goto hC 12 dX0_isOdd_8 rfl ?_
      exact q_zret hC dX0_isOdd_12 (Nat.le_of_ble_eq_true rfl) (Nat.le_of_ble_eq_true rfl)
  · exact c_no
theorem sX0_isOdd : Snd yX0_isOdd (.code yX0_isOdd cX0_isOdd 1 (some .boolean)) rmX0_isOdd SX0_isOdd := by
  refine Snd.of lX0_isOdd (by decide +kernel) (fun _ => rfl) ?_
  intro Γ hC hnt hnm J hJ L a
  match L with
  | 0 => exact pX0_isOdd_0 hC hnt J hJ a
  | L + 1 => exact c_no
/-! SpiritWall$Edges.readSights()V -/
theorem dX0_readSights_0 : decode cX0_readSights 0 = .ok (.iconst 0, 1) := by decide +kernel
theorem dX0_readSights_1 : decode cX0_readSights 1 = .ok (.istore_n 1, 1) := by decide +kernel
theorem dX0_readSights_2 : decode cX0_readSights 2 = .ok (.iload_n 1, 1) := by decide +kernel
theorem dX0_readSights_3 : decode cX0_readSights 3 = .ok (.aload_n 0, 1) := by decide +kernel
theorem dX0_readSights_4 : decode cX0_readSights 4 = .ok (.getfield 62, 3) := by decide +kernel
theorem dX0_readSights_7 : decode cX0_readSights 7 = .ok (.getfield 97, 3) := by decide +kernel
theorem dX0_readSights_10 : decode cX0_readSights 10 = .ok (.if_icmp .ge 121, 3) := by decide +kernel
theorem dX0_readSights_13 : decode cX0_readSights 13 = .ok (.aload_n 0, 1) := by decide +kernel
theorem dX0_readSights_14 : decode cX0_readSights 14 = .ok (.getfield 18, 3) := by decide +kernel
theorem dX0_readSights_17 : decode cX0_readSights 17 = .ok (.iload_n 1, 1) := by decide +kernel
theorem dX0_readSights_18 : decode cX0_readSights 18 = .ok (.aload_n 0, 1) := by decide +kernel
theorem dX0_readSights_19 : decode cX0_readSights 19 = .ok (.getfield 58, 3) := by decide +kernel
theorem dX0_readSights_22 : decode cX0_readSights 22 = .ok (.aload_n 0, 1) := by decide +kernel
theorem dX0_readSights_23 : decode cX0_readSights 23 = .ok (.getfield 62, 3) := by decide +kernel
theorem dX0_readSights_26 : decode cX0_readSights 26 = .ok (.getfield 99, 3) := by decide +kernel
theorem dX0_readSights_29 : decode cX0_readSights 29 = .ok (.iload_n 1, 1) := by decide +kernel
theorem dX0_readSights_30 : decode cX0_readSights 30 = .ok (.invokestatic 102, 3) := by decide +kernel
theorem dX0_readSights_33 : decode cX0_readSights 33 = .ok (.aload_n 0, 1) := by decide +kernel
theorem dX0_readSights_34 : decode cX0_readSights 34 = .ok (.getfield 62, 3) := by decide +kernel
theorem dX0_readSights_37 : decode cX0_readSights 37 = .ok (.getfield 106, 3) := by decide +kernel
theorem dX0_readSights_40 : decode cX0_readSights 40 = .ok (.iload_n 1, 1) := by decide +kernel
theorem dX0_readSights_41 : decode cX0_readSights 41 = .ok (.invokestatic 102, 3) := by decide +kernel
theorem dX0_readSights_44 : decode cX0_readSights 44 = .ok (.invokevirtual 109, 3) := by decide +kernel
theorem dX0_readSights_47 : decode cX0_readSights 47 = .ok (.invokestatic 115, 3) := by decide +kernel
theorem dX0_readSights_50 : decode cX0_readSights 50 = .ok (.aload_n 0, 1) := by decide +kernel
theorem dX0_readSights_51 : decode cX0_readSights 51 = .ok (.getfield 22, 3) := by decide +kernel
theorem dX0_readSights_54 : decode cX0_readSights 54 = .ok (.iload_n 1, 1) := by decide +kernel
theorem dX0_readSights_55 : decode cX0_readSights 55 = .ok (.aload_n 0, 1) := by decide +kernel
theorem dX0_readSights_56 : decode cX0_readSights 56 = .ok (.getfield 62, 3) := by decide +kernel
theorem dX0_readSights_59 : decode cX0_readSights 59 = .ok (.getfield 119, 3) := by decide +kernel
theorem dX0_readSights_62 : decode cX0_readSights 62 = .ok (.iload_n 1, 1) := by decide +kernel
theorem dX0_readSights_63 : decode cX0_readSights 63 = .ok (.invokestatic 102, 3) := by decide +kernel
theorem dX0_readSights_66 : decode cX0_readSights 66 = .ok (.aload_n 0, 1) := by decide +kernel
theorem dX0_readSights_67 : decode cX0_readSights 67 = .ok (.iload_n 1, 1) := by decide +kernel
theorem dX0_readSights_68 : decode cX0_readSights 68 = .ok (.invokevirtual 122, 3) := by decide +kernel
theorem dX0_readSights_71 : decode cX0_readSights 71 = .ok (.isub, 1) := by decide +kernel
theorem dX0_readSights_72 : decode cX0_readSights 72 = .ok (.aload_n 0, 1) := by decide +kernel
theorem dX0_readSights_73 : decode cX0_readSights 73 = .ok (.iload_n 1, 1) := by decide +kernel
theorem dX0_readSights_74 : decode cX0_readSights 74 = .ok (.invokevirtual 125, 3) := by decide +kernel
theorem dX0_readSights_77 : decode cX0_readSights 77 = .ok (.isub, 1) := by decide +kernel
theorem dX0_readSights_78 : decode cX0_readSights 78 = .ok (.invokestatic 115, 3) := by decide +kernel
theorem dX0_readSights_81 : decode cX0_readSights 81 = .ok (.aload_n 0, 1) := by decide +kernel
theorem dX0_readSights_82 : decode cX0_readSights 82 = .ok (.getfield 62, 3) := by decide +kernel
theorem dX0_readSights_85 : decode cX0_readSights 85 = .ok (.getfield 128, 3) := by decide +kernel
theorem dX0_readSights_88 : decode cX0_readSights 88 = .ok (.iload_n 1, 1) := by decide +kernel
theorem dX0_readSights_89 : decode cX0_readSights 89 = .ok (.invokestatic 102, 3) := by decide +kernel
theorem dX0_readSights_92 : decode cX0_readSights 92 = .ok (.ifCond .ne 7, 3) := by decide +kernel
theorem dX0_readSights_95 : decode cX0_readSights 95 = .ok (.iconst 1, 1) := by decide +kernel
theorem dX0_readSights_96 : decode cX0_readSights 96 = .ok (.goto 4, 3) := by decide +kernel
theorem dX0_readSights_99 : decode cX0_readSights 99 = .ok (.iconst (-1), 1) := by decide +kernel
theorem dX0_readSights_100 : decode cX0_readSights 100 = .ok (.istore_n 2, 1) := by decide +kernel
theorem dX0_readSights_101 : decode cX0_readSights 101 = .ok (.aload_n 0, 1) := by decide +kernel
theorem dX0_readSights_102 : decode cX0_readSights 102 = .ok (.getfield 25, 3) := by decide +kernel
theorem dX0_readSights_105 : decode cX0_readSights 105 = .ok (.iload_n 1, 1) := by decide +kernel
theorem dX0_readSights_106 : decode cX0_readSights 106 = .ok (.aload_n 0, 1) := by decide +kernel
theorem dX0_readSights_107 : decode cX0_readSights 107 = .ok (.iload_n 1, 1) := by decide +kernel
theorem dX0_readSights_108 : decode cX0_readSights 108 = .ok (.invokevirtual 131, 3) := by decide +kernel
theorem dX0_readSights_111 : decode cX0_readSights 111 = .ok (.invokestatic 134, 3) := by decide +kernel
theorem dX0_readSights_114 : decode cX0_readSights 114 = .ok (.ifCond .eq 7, 3) := by decide +kernel
theorem dX0_readSights_117 : decode cX0_readSights 117 = .ok (.iload_n 2, 1) := by decide +kernel
theorem dX0_readSights_118 : decode cX0_readSights 118 = .ok (.goto 4, 3) := by decide +kernel
theorem dX0_readSights_121 : decode cX0_readSights 121 = .ok (.iconst 0, 1) := by decide +kernel
theorem dX0_readSights_122 : decode cX0_readSights 122 = .ok (.invokestatic 115, 3) := by decide +kernel
theorem dX0_readSights_125 : decode cX0_readSights 125 = .ok (.iinc 1 1, 3) := by decide +kernel
theorem dX0_readSights_128 : decode cX0_readSights 128 = .ok (.goto (-126), 3) := by decide +kernel
theorem dX0_readSights_131 : decode cX0_readSights 131 = .ok (.return_, 1) := by decide +kernel
def rmX0_readSights : Room := rmk 10 0 0 240
theorem nX0_readSights : nameOk yX0_readSights 0 = true := by decide +kernel
def bX0_readSights_0 (J : JT) : List Value → Sem
  | [.ref x0] =>
    J 1 [.ref x0, .int 0]
  | _ => no
def bX0_readSights_1 (J : JT) : List Value → Sem
  | [.ref x0, .int x1] =>
    gR 0 1 x0 fun r1 =>
    gI 6 6 r1 fun v2 =>
    br (v2 ≤ x1)
    (rV)
    (gR 0 4 x0 fun r3 =>
    gR 0 0 x0 fun r4 =>
    gR 0 1 x0 fun r5 =>
    gR 6 7 r5 fun r6 =>
    cI SX10_cell [.ref r6, .int x1] fun v7 =>
    gR 0 1 x0 fun r8 =>
    gR 6 8 r8 fun r9 =>
    cI SX10_cell [.ref r9, .int x1] fun v10 =>
    ob 9 r4 (cI SX9_distance [.ref r4, .int v7, .int v10] fun v11 =>
    cV SX10_put [.ref r3, .int x1, .int v11] <|
    gR 0 5 x0 fun r12 =>
    gR 0 1 x0 fun r13 =>
    gR 6 10 r13 fun r14 =>
    cI SX10_cell [.ref r14, .int x1] fun v15 =>
    ob 0 x0 (cI SX0_bendOf [.ref x0, .int x1] fun v16 =>
    ob 0 x0 (cI SX0_warmthOf [.ref x0, .int x1] fun v17 =>
    cV SX10_put [.ref r12, .int x1, .int ((v15 - v16) - v17)] <|
    gR 0 1 x0 fun r18 =>
    gR 6 9 r18 fun r19 =>
    cI SX10_cell [.ref r19, .int x1] fun v20 =>
    br (v20 = 0)
    (gR 0 6 x0 fun r24 =>
    ob 0 x0 (cI SX0_swingsOf [.ref x0, .int x1] fun v25 =>
    cI SX0_isOdd [.int v25] fun v26 =>
    br (v26 = 0)
    (cV SX10_put [.ref r24, .int x1, .int 0] <|
    J 1 [.ref x0, .int (x1 + 1)])
    (cV SX10_put [.ref r24, .int x1, .int 1] <|
    J 1 [.ref x0, .int (x1 + 1)])))
    (gR 0 6 x0 fun r21 =>
    ob 0 x0 (cI SX0_swingsOf [.ref x0, .int x1] fun v22 =>
    cI SX0_isOdd [.int v22] fun v23 =>
    br (v23 = 0)
    (cV SX10_put [.ref r21, .int x1, .int 0] <|
    J 1 [.ref x0, .int (x1 + 1)])
    (cV SX10_put [.ref r21, .int x1, .int (-1)] <|
    J 1 [.ref x0, .int (x1 + 1)])))))))
  | _ => no
def bX0_readSights (J : JT) : JT := fun L a => match L with
  | 0 => bX0_readSights_0 J a
  | 1 => bX0_readSights_1 J a
  | _ => no
def SX0_readSights : ST := mk 3 bX0_readSights
def lX0_readSights (L : Nat) (a : List Value) : Nat × Nat × Nat × List (Nat × Value) × List Value := match L with
  | 0 => (0, 0, 0, lv_args 0 a, [])
  | 1 => (0, 0, 2, List.zip [0, 1] a, [])
  | _ => (0, 0, 0, [], [])
theorem pX0_readSights_0 {Γ : CT} (hC : Ctx Γ "SpiritWall$Edges" cX0_readSights 3 none rmX0_readSights) (hnt : NT Γ) (J : JT) (hJ : ∀ L a, Cor Γ 3 (lX0_readSights L a).1 (lX0_readSights L a).2.1 (lX0_readSights L a).2.2.1 (lX0_readSights L a).2.2.2.1 (lX0_readSights L a).2.2.2.2 (J L a)) (a : List Value) : Cor Γ 3 0 0 0 (lv_args 0 a) [] (bX0_readSights_0 J a) := by
  unfold bX0_readSights_0
  split
  · rename_i x0
    refine c_sub [0] rfl (loc' := [(0, .ref x0)]) ?_
    refine q_iconst hC dX0_readSights_0 rfl ?_
    refine q_istore_nA hC (loc' := [(1, .int 0), (0, .ref x0)]) dX0_readSights_1 rfl (Nat.le_of_ble_eq_true rfl) rfl ?_
    exact c_sub [1, 0] rfl (hJ 1 [.ref x0, .int 0])
  · exact c_no
theorem pX0_readSights_1 {Γ : CT} (hC : Ctx Γ "SpiritWall$Edges" cX0_readSights 3 none rmX0_readSights) (hnt : NT Γ) (J : JT) (hJ : ∀ L a, Cor Γ 3 (lX0_readSights L a).1 (lX0_readSights L a).2.1 (lX0_readSights L a).2.2.1 (lX0_readSights L a).2.2.2.1 (lX0_readSights L a).2.2.2.2 (J L a)) (a : List Value) : Cor Γ 3 0 0 2 (List.zip [0, 1] a) [] (bX0_readSights_1 J a) := by
  unfold bX0_readSights_1
  split
  · rename_i x0 x1
    refine c_sub [0, 1] rfl (loc' := [(0, .ref x0), (1, .int x1)]) ?_
    refine q_iload_n hC 1 dX0_readSights_2 rfl rfl ?_
    refine q_aload_n hC 0 dX0_readSights_3 rfl rfl ?_
    refine q_getR hC (by decide) (by decide) rfl w_100 dX0_readSights_4 (fun r1 => ?_)
    refine q_getI hC (by decide) (by decide) rfl w_366 dX0_readSights_7 (fun v2 => ?_)
    refine q_ic_ge hC 131 dX0_readSights_10 rfl ?_ ?_
    · exact q_vret hC dX0_readSights_131 (Nat.le_of_ble_eq_true rfl) (Nat.le_of_ble_eq_true rfl)
    · refine q_aload_n hC 0 dX0_readSights_13 rfl rfl ?_
      refine q_getR hC (by decide) (by decide) rfl w_86 dX0_readSights_14 (fun r3 => ?_)
      refine q_iload_n hC 1 dX0_readSights_17 rfl rfl ?_
      refine q_aload_n hC 0 dX0_readSights_18 rfl rfl ?_
      refine q_getR hC (by decide) (by decide) rfl w_99 dX0_readSights_19 (fun r4 => ?_)
      refine q_aload_n hC 0 dX0_readSights_22 rfl rfl ?_
      refine q_getR hC (by decide) (by decide) rfl w_100 dX0_readSights_23 (fun r5 => ?_)
      refine q_getR hC (by decide) (by decide) rfl w_367 dX0_readSights_26 (fun r6 => ?_)
      refine q_iload_n hC 1 dX0_readSights_29 rfl rfl ?_
      refine q_cNI hC hnt (stk := [.ref r4, .int x1, .ref r3]) (as := [.ref r6, .int x1]) sX10_cell nX10_cell rfl w_352 w_202 w_27 w_201 (Nat.le_of_ble_eq_true rfl) dX0_readSights_30 rfl (fun v7 => ?_)
      refine q_aload_n hC 0 dX0_readSights_33 rfl rfl ?_
      refine q_getR hC (by decide) (by decide) rfl w_100 dX0_readSights_34 (fun r8 => ?_)
      refine q_getR hC (by decide) (by decide) rfl w_368 dX0_readSights_37 (fun r9 => ?_)
      refine q_iload_n hC 1 dX0_readSights_40 rfl rfl ?_
      refine q_cNI hC hnt (stk := [.int v7, .ref r4, .int x1, .ref r3]) (as := [.ref r9, .int x1]) sX10_cell nX10_cell rfl w_352 w_202 w_27 w_201 (Nat.le_of_ble_eq_true rfl) dX0_readSights_41 rfl (fun v10 => ?_)
      refine q_cVI hC hnt (stk := [.int x1, .ref r3]) (as := [.int v7, .int v10]) sX9_distance (ci := 9) (by decide) rfl nX9_distance rfl w_369 w_371 w_372 w_65 w_370 (Nat.le_of_ble_eq_true rfl) dX0_readSights_44 rfl (fun v11 => ?_)
      refine q_cNV hC hnt (stk := []) (as := [.ref r3, .int x1, .int v11]) sX10_put nX10_put rfl w_373 w_187 w_27 w_186 (Nat.le_of_ble_eq_true rfl) dX0_readSights_47 rfl ?_
      refine q_aload_n hC 0 dX0_readSights_50 rfl rfl ?_
      refine q_getR hC (by decide) (by decide) rfl w_87 dX0_readSights_51 (fun r12 => ?_)
      refine q_iload_n hC 1 dX0_readSights_54 rfl rfl ?_
      refine q_aload_n hC 0 dX0_readSights_55 rfl rfl ?_
      refine q_getR hC (by decide) (by decide) rfl w_100 dX0_readSights_56 (fun r13 => ?_)
      refine q_getR hC (by decide) (by decide) rfl w_374 dX0_readSights_59 (fun r14 => ?_)
      refine q_iload_n hC 1 dX0_readSights_62 rfl rfl ?_
      refine q_cNI hC hnt (stk := [.int x1, .ref r12]) (as := [.ref r14, .int x1]) sX10_cell nX10_cell rfl w_352 w_202 w_27 w_201 (Nat.le_of_ble_eq_true rfl) dX0_readSights_63 rfl (fun v15 => ?_)
      refine q_aload_n hC 0 dX0_readSights_66 rfl rfl ?_
      refine q_iload_n hC 1 dX0_readSights_67 rfl rfl ?_
      refine q_cVI hC hnt (stk := [.int v15, .int x1, .ref r12]) (as := [.int x1]) sX0_bendOf (ci := 0) (by decide) rfl nX0_bendOf rfl w_375 w_377 w_378 w_149 w_376 (Nat.le_of_ble_eq_true rfl) dX0_readSights_68 rfl (fun v16 => ?_)
      refine q_isub hC dX0_readSights_71 ?_
      refine q_aload_n hC 0 dX0_readSights_72 rfl rfl ?_
      refine q_iload_n hC 1 dX0_readSights_73 rfl rfl ?_
      refine q_cVI hC hnt (stk := [.int (v15 - v16), .int x1, .ref r12]) (as := [.int x1]) sX0_warmthOf (ci := 0) (by decide) rfl nX0_warmthOf rfl w_379 w_381 w_382 w_149 w_380 (Nat.le_of_ble_eq_true rfl) dX0_readSights_74 rfl (fun v17 => ?_)
      refine q_isub hC dX0_readSights_77 ?_
      refine q_cNV hC hnt (stk := []) (as := [.ref r12, .int x1, .int ((v15 - v16) - v17)]) sX10_put nX10_put rfl w_373 w_187 w_27 w_186 (Nat.le_of_ble_eq_true rfl) dX0_readSights_78 rfl ?_
      refine q_aload_n hC 0 dX0_readSights_81 rfl rfl ?_
      refine q_getR hC (by decide) (by decide) rfl w_100 dX0_readSights_82 (fun r18 => ?_)
      refine q_getR hC (by decide) (by decide) rfl w_383 dX0_readSights_85 (fun r19 => ?_)
      refine q_iload_n hC 1 dX0_readSights_88 rfl rfl ?_
      refine q_cNI hC hnt (stk := []) (as := [.ref r19, .int x1]) sX10_cell nX10_cell rfl w_352 w_202 w_27 w_201 (Nat.le_of_ble_eq_true rfl) dX0_readSights_89 rfl (fun v20 => ?_)
      refine q_if_ne hC 99 dX0_readSights_92 rfl ?_ ?_
      · refine q_iconst hC dX0_readSights_99 rfl ?_
        refine q_istore_nA hC (loc' := [(2, .int (-1)), (0, .ref x0), (1, .int x1)]) dX0_readSights_100 rfl (Nat.le_of_ble_eq_true rfl) rfl ?_
        refine q_aload_n hC 1 dX0_readSights_101 rfl rfl ?_
        refine q_getR hC (by decide) (by decide) rfl w_88 dX0_readSights_102 (fun r21 => ?_)
        refine q_iload_n hC 2 dX0_readSights_105 rfl rfl ?_
        refine q_aload_n hC 1 dX0_readSights_106 rfl rfl ?_
        refine q_iload_n hC 2 dX0_readSights_107 rfl rfl ?_
        refine q_cVI hC hnt (stk := [.int x1, .ref r21]) (as := [.int x1]) sX0_swingsOf (ci := 0) (by decide) rfl nX0_swingsOf rfl w_384 w_386 w_387 w_149 w_385 (Nat.le_of_ble_eq_true rfl) dX0_readSights_108 rfl (fun v22 => ?_)
        refine q_cSI hC hnt (stk := [.int x1, .ref r21]) (as := [.int v22]) sX0_isOdd nX0_isOdd rfl w_388 w_390 w_149 w_389 (Nat.le_of_ble_eq_true rfl) dX0_readSights_111 rfl (fun v23 => ?_)
        refine q_if_eq hC 121 dX0_readSights_114 rfl ?_ ?_
        · refine q_iconst hC dX0_readSights_121 rfl ?_
          refine q_cNV hC hnt (stk := []) (as := [.ref r21, .int x1, .int 0]) sX10_put nX10_put rfl w_373 w_187 w_27 w_186 (Nat.le_of_ble_eq_true rfl) dX0_readSights_122 rfl ?_
          refine q_iincA hC (loc' := [(1, .int (x1 + 1)), (2, .int (-1)), (0, .ref x0)]) 2 1 dX0_readSights_125 rfl rfl (Nat.le_of_ble_eq_true rfl) rfl ?_
          refine q_goto hC 2 dX0_readSights_128 rfl ?_
          exact c_sub [2, 0] rfl (hJ 1 [.ref x0, .int (x1 + 1)])
        · refine q_iload_n hC 0 dX0_readSights_117 rfl rfl ?_
          refine q_goto hC 122 dX0_readSights_118 rfl ?_
          refine q_cNV hC hnt (stk := []) (as := [.ref r21, .int x1, .int (-1)]) sX10_put nX10_put rfl w_373 w_187 w_27 w_186 (Nat.le_of_ble_eq_true rfl) dX0_readSights_122 rfl ?_
          refine q_iincA hC (loc' := [(1, .int (x1 + 1)), (2, .int (-1)), (0, .ref x0)]) 2 1 dX0_readSights_125 rfl rfl (Nat.le_of_ble_eq_true rfl) rfl ?_
          refine q_goto hC 2 dX0_readSights_128 rfl ?_
          exact c_sub [2, 0] rfl (hJ 1 [.ref x0, .int (x1 + 1)])
      · refine q_iconst hC dX0_readSights_95 rfl ?_
        refine q_goto hC 100 dX0_readSights_96 rfl ?_
        refine q_istore_nA hC (loc' := [(2, .int 1), (0, .ref x0), (1, .int x1)]) dX0_readSights_100 rfl (Nat.le_of_ble_eq_true rfl) rfl ?_
        refine q_aload_n hC 1 dX0_readSights_101 rfl rfl ?_
        refine q_getR hC (by decide) (by decide) rfl w_88 dX0_readSights_102 (fun r24 => ?_)
        refine q_iload_n hC 2 dX0_readSights_105 rfl rfl ?_
        refine q_aload_n hC 1 dX0_readSights_106 rfl rfl ?_
        refine q_iload_n hC 2 dX0_readSights_107 rfl rfl ?_
        refine q_cVI hC hnt (stk := [.int x1, .ref r24]) (as := [.int x1]) sX0_swingsOf (ci := 0) (by decide) rfl nX0_swingsOf rfl w_384 w_386 w_387 w_149 w_385 (Nat.le_of_ble_eq_true rfl) dX0_readSights_108 rfl (fun v25 => ?_)
        refine q_cSI hC hnt (stk := [.int x1, .ref r24]) (as := [.int v25]) sX0_isOdd nX0_isOdd rfl w_388 w_390 w_149 w_389 (Nat.le_of_ble_eq_true rfl) dX0_readSights_111 rfl (fun v26 => ?_)
        refine q_if_eq hC 121 dX0_readSights_114 rfl ?_ ?_
        · refine q_iconst hC dX0_readSights_121 rfl ?_
          refine q_cNV hC hnt (stk := []) (as := [.ref r24, .int x1, .int 0]) sX10_put nX10_put rfl w_373 w_187 w_27 w_186 (Nat.le_of_ble_eq_true rfl) dX0_readSights_122 rfl ?_
          refine q_iincA hC (loc' := [(1, .int (x1 + 1)), (2, .int 1), (0, .ref x0)]) 2 1 dX0_readSights_125 rfl rfl (Nat.le_of_ble_eq_true rfl) rfl ?_
          refine q_goto hC 2 dX0_readSights_128 rfl ?_
          exact c_sub [2, 0] rfl (hJ 1 [.ref x0, .int (x1 + 1)])
        · refine q_iload_n hC 0 dX0_readSights_117 rfl rfl ?_
          refine q_goto hC 122 dX0_readSights_118 rfl ?_
          refine q_cNV hC hnt (stk := []) (as := [.ref r24, .int x1, .int 1]) sX10_put nX10_put rfl w_373 w_187 w_27 w_186 (Nat.le_of_ble_eq_true rfl) dX0_readSights_122 rfl ?_
          refine q_iincA hC (loc' := [(1, .int (x1 + 1)), (2, .int 1), (0, .ref x0)]) 2 1 dX0_readSights_125 rfl rfl (Nat.le_of_ble_eq_true rfl) rfl ?_
          refine q_goto hC 2 dX0_readSights_128 rfl ?_
          exact c_sub [2, 0] rfl (hJ 1 [.ref x0, .int (x1 + 1)])
  · exact c_no
theorem sX0_readSights : Snd yX0_readSights (.code yX0_readSights cX0_readSights 3 none) rmX0_readSights SX0_readSights := by
  refine Snd.of lX0_readSights (by decide +kernel) (fun _ => rfl) ?_
  intro Γ hC hnt hnm J hJ L a
  match L with
  | 0 => exact pX0_readSights_0 hC hnt J hJ a
  | 1 => exact pX0_readSights_1 hC hnt J hJ a
  | L + 2 => exact c_no
/-! SpiritWall$State.counts(I)Z -/
theorem dX6_counts_0 : decode cX6_counts 0 = .ok (.aload_n 0, 1) := by decide +kernel
theorem dX6_counts_1 : decode cX6_counts 1 = .ok (.getfield 50, 3) := by decide +kernel
theorem dX6_counts_4 : decode cX6_counts 4 = .ok (.iload_n 1, 1) := by decide +kernel
theorem dX6_counts_5 : decode cX6_counts 5 = .ok (.invokestatic 64, 3) := by decide +kernel
theorem dX6_counts_8 : decode cX6_counts 8 = .ok (.ifCond .ne 7, 3) := by decide +kernel
theorem dX6_counts_11 : decode cX6_counts 11 = .ok (.iconst 1, 1) := by decide +kernel
theorem dX6_counts_12 : decode cX6_counts 12 = .ok (.goto 4, 3) := by decide +kernel
theorem dX6_counts_15 : decode cX6_counts 15 = .ok (.iconst 0, 1) := by decide +kernel
theorem dX6_counts_16 : decode cX6_counts 16 = .ok (.ireturn, 1) := by decide +kernel
def rmX6_counts : Room := rmk 7 0 0 171
theorem nX6_counts : nameOk yX6_counts 1 = true := by decide +kernel
def bX6_counts_0 (J : JT) : List Value → Sem
  | [.ref x0, .int x1] =>
    gR 6 12 x0 fun r1 =>
    cI SX10_cell [.ref r1, .int x1] fun v2 =>
    br (v2 = 0)
    (rZ 1)
    (rZ 0)
  | _ => no
def bX6_counts (J : JT) : JT := fun L a => match L with
  | 0 => bX6_counts_0 J a
  | _ => no
def SX6_counts : ST := mk 2 bX6_counts
def lX6_counts (L : Nat) (a : List Value) : Nat × Nat × Nat × List (Nat × Value) × List Value := match L with
  | 0 => (0, 0, 0, lv_args 0 a, [])
  | _ => (0, 0, 0, [], [])
theorem pX6_counts_0 {Γ : CT} (hC : Ctx Γ "SpiritWall$State" cX6_counts 2 (some .boolean) rmX6_counts) (hnt : NT Γ) (J : JT) (hJ : ∀ L a, Cor Γ 2 (lX6_counts L a).1 (lX6_counts L a).2.1 (lX6_counts L a).2.2.1 (lX6_counts L a).2.2.2.1 (lX6_counts L a).2.2.2.2 (J L a)) (a : List Value) : Cor Γ 2 0 0 0 (lv_args 0 a) [] (bX6_counts_0 J a) := by
  unfold bX6_counts_0
  split
  · rename_i x0 x1
    refine c_sub [0, 1] rfl (loc' := [(0, .ref x0), (1, .int x1)]) ?_
    refine q_aload_n hC 0 dX6_counts_0 rfl rfl ?_
    refine q_getR hC (by decide) (by decide) rfl w_22 dX6_counts_1 (fun r1 => ?_)
    refine q_iload_n hC 1 dX6_counts_4 rfl rfl ?_
    refine q_cNI hC hnt (stk := []) (as := [.ref r1, .int x1]) sX10_cell nX10_cell rfl w_347 w_202 w_27 w_201 (Nat.le_of_ble_eq_true rfl) dX6_counts_5 rfl (fun v2 => ?_)
    refine q_if_ne hC 15 dX6_counts_8 rfl ?_ ?_
    · refine q_iconst hC dX6_counts_15 rfl ?_
      exact q_zret hC dX6_counts_16 (Nat.le_of_ble_eq_true rfl) (Nat.le_of_ble_eq_true rfl)
    · refine q_iconst hC dX6_counts_11 rfl ?_
      refine q_goto hC 16 dX6_counts_12 rfl ?_
      exact q_zret hC dX6_counts_16 (Nat.le_of_ble_eq_true rfl) (Nat.le_of_ble_eq_true rfl)
  · exact c_no
theorem sX6_counts : Snd yX6_counts (.code yX6_counts cX6_counts 2 (some .boolean)) rmX6_counts SX6_counts := by
  refine Snd.of lX6_counts (by decide +kernel) (fun _ => rfl) ?_
  intro Γ hC hnt hnm J hJ L a
  match L with
  | 0 => exact pX6_counts_0 hC hnt J hJ a
  | L + 1 => exact c_no
/-! SpiritWall.pairOf(II)I -/
theorem dX10_pairOf_0 : decode cX10_pairOf 0 = .ok (.iload_n 0, 1) := by decide +kernel
theorem dX10_pairOf_1 : decode cX10_pairOf 1 = .ok (.iload_n 1, 1) := by decide +kernel
theorem dX10_pairOf_2 : decode cX10_pairOf 2 = .ok (.if_icmp .ge 12, 3) := by decide +kernel
theorem dX10_pairOf_5 : decode cX10_pairOf 5 = .ok (.bipush 12, 2) := by decide +kernel
theorem dX10_pairOf_7 : decode cX10_pairOf 7 = .ok (.iload_n 0, 1) := by decide +kernel
theorem dX10_pairOf_8 : decode cX10_pairOf 8 = .ok (.imul, 1) := by decide +kernel
theorem dX10_pairOf_9 : decode cX10_pairOf 9 = .ok (.iload_n 1, 1) := by decide +kernel
theorem dX10_pairOf_10 : decode cX10_pairOf 10 = .ok (.iadd, 1) := by decide +kernel
theorem dX10_pairOf_11 : decode cX10_pairOf 11 = .ok (.goto 9, 3) := by decide +kernel
theorem dX10_pairOf_14 : decode cX10_pairOf 14 = .ok (.bipush 12, 2) := by decide +kernel
theorem dX10_pairOf_16 : decode cX10_pairOf 16 = .ok (.iload_n 1, 1) := by decide +kernel
theorem dX10_pairOf_17 : decode cX10_pairOf 17 = .ok (.imul, 1) := by decide +kernel
theorem dX10_pairOf_18 : decode cX10_pairOf 18 = .ok (.iload_n 0, 1) := by decide +kernel
theorem dX10_pairOf_19 : decode cX10_pairOf 19 = .ok (.iadd, 1) := by decide +kernel
theorem dX10_pairOf_20 : decode cX10_pairOf 20 = .ok (.ireturn, 1) := by decide +kernel
def rmX10_pairOf : Room := rmk 6 0 0 150
theorem nX10_pairOf : nameOk yX10_pairOf 2 = true := by decide +kernel
def bX10_pairOf_0 (J : JT) : List Value → Sem
  | [.int x0, .int x1] =>
    br (x1 ≤ x0)
    (rI ((12 * x1) + x0))
    (rI ((12 * x0) + x1))
  | _ => no
def bX10_pairOf (J : JT) : JT := fun L a => match L with
  | 0 => bX10_pairOf_0 J a
  | _ => no
def SX10_pairOf : ST := mk 2 bX10_pairOf
def lX10_pairOf (L : Nat) (a : List Value) : Nat × Nat × Nat × List (Nat × Value) × List Value := match L with
  | 0 => (0, 0, 0, lv_args 0 a, [])
  | _ => (0, 0, 0, [], [])
theorem pX10_pairOf_0 {Γ : CT} (hC : Ctx Γ "SpiritWall" cX10_pairOf 2 (some .int) rmX10_pairOf) (hnt : NT Γ) (J : JT) (hJ : ∀ L a, Cor Γ 2 (lX10_pairOf L a).1 (lX10_pairOf L a).2.1 (lX10_pairOf L a).2.2.1 (lX10_pairOf L a).2.2.2.1 (lX10_pairOf L a).2.2.2.2 (J L a)) (a : List Value) : Cor Γ 2 0 0 0 (lv_args 0 a) [] (bX10_pairOf_0 J a) := by
  unfold bX10_pairOf_0
  split
  · rename_i x0 x1
    refine c_sub [0, 1] rfl (loc' := [(0, .int x0), (1, .int x1)]) ?_
    refine q_iload_n hC 0 dX10_pairOf_0 rfl rfl ?_
    refine q_iload_n hC 1 dX10_pairOf_1 rfl rfl ?_
    refine q_ic_ge hC 14 dX10_pairOf_2 rfl ?_ ?_
    · refine q_bipush hC (v := 12) dX10_pairOf_14 rfl ?_
      refine q_iload_n hC 1 dX10_pairOf_16 rfl rfl ?_
      refine q_imul hC dX10_pairOf_17 ?_
      refine q_iload_n hC 0 dX10_pairOf_18 rfl rfl ?_
      refine q_iadd hC dX10_pairOf_19 ?_
      exact q_iret hC dX10_pairOf_20 (Nat.le_of_ble_eq_true rfl) (Nat.le_of_ble_eq_true rfl)
    · refine q_bipush hC (v := 12) dX10_pairOf_5 rfl ?_
      refine q_iload_n hC 0 dX10_pairOf_7 rfl rfl ?_
      refine q_imul hC dX10_pairOf_8 ?_
      refine q_iload_n hC 1 dX10_pairOf_9 rfl rfl ?_
      refine q_iadd hC dX10_pairOf_10 ?_
      refine q_goto hC 20 dX10_pairOf_11 rfl ?_
      exact q_iret hC dX10_pairOf_20 (Nat.le_of_ble_eq_true rfl) (Nat.le_of_ble_eq_true rfl)
  · exact c_no
theorem sX10_pairOf : Snd yX10_pairOf (.code yX10_pairOf cX10_pairOf 2 (some .int)) rmX10_pairOf SX10_pairOf := by
  refine Snd.of lX10_pairOf (by decide +kernel) (fun _ => rfl) ?_
  intro Γ hC hnt hnm J hJ L a
  match L with
  | 0 => exact pX10_pairOf_0 hC hnt J hJ a
  | L + 1 => exact c_no
/-! SpiritWall$Edges.tellPairs()V -/
theorem dX0_tellPairs_0 : decode cX0_tellPairs 0 = .ok (.aload_n 0, 1) := by decide +kernel
theorem dX0_tellPairs_1 : decode cX0_tellPairs 1 = .ok (.getfield 28, 3) := by decide +kernel
theorem dX0_tellPairs_4 : decode cX0_tellPairs 4 = .ok (.iconst (-1), 1) := by decide +kernel
theorem dX0_tellPairs_5 : decode cX0_tellPairs 5 = .ok (.invokestatic 138, 3) := by decide +kernel
theorem dX0_tellPairs_8 : decode cX0_tellPairs 8 = .ok (.iconst 0, 1) := by decide +kernel
theorem dX0_tellPairs_9 : decode cX0_tellPairs 9 = .ok (.istore_n 1, 1) := by decide +kernel
theorem dX0_tellPairs_10 : decode cX0_tellPairs 10 = .ok (.iload_n 1, 1) := by decide +kernel
theorem dX0_tellPairs_11 : decode cX0_tellPairs 11 = .ok (.aload_n 0, 1) := by decide +kernel
theorem dX0_tellPairs_12 : decode cX0_tellPairs 12 = .ok (.getfield 62, 3) := by decide +kernel
theorem dX0_tellPairs_15 : decode cX0_tellPairs 15 = .ok (.getfield 97, 3) := by decide +kernel
theorem dX0_tellPairs_18 : decode cX0_tellPairs 18 = .ok (.if_icmp .ge 53, 3) := by decide +kernel
theorem dX0_tellPairs_21 : decode cX0_tellPairs 21 = .ok (.aload_n 0, 1) := by decide +kernel
theorem dX0_tellPairs_22 : decode cX0_tellPairs 22 = .ok (.getfield 62, 3) := by decide +kernel
theorem dX0_tellPairs_25 : decode cX0_tellPairs 25 = .ok (.iload_n 1, 1) := by decide +kernel
theorem dX0_tellPairs_26 : decode cX0_tellPairs 26 = .ok (.invokevirtual 142, 3) := by decide +kernel
theorem dX0_tellPairs_29 : decode cX0_tellPairs 29 = .ok (.ifCond .eq 36, 3) := by decide +kernel
theorem dX0_tellPairs_32 : decode cX0_tellPairs 32 = .ok (.aload_n 0, 1) := by decide +kernel
theorem dX0_tellPairs_33 : decode cX0_tellPairs 33 = .ok (.getfield 28, 3) := by decide +kernel
theorem dX0_tellPairs_36 : decode cX0_tellPairs 36 = .ok (.aload_n 0, 1) := by decide +kernel
theorem dX0_tellPairs_37 : decode cX0_tellPairs 37 = .ok (.getfield 62, 3) := by decide +kernel
theorem dX0_tellPairs_40 : decode cX0_tellPairs 40 = .ok (.getfield 99, 3) := by decide +kernel
theorem dX0_tellPairs_43 : decode cX0_tellPairs 43 = .ok (.iload_n 1, 1) := by decide +kernel
theorem dX0_tellPairs_44 : decode cX0_tellPairs 44 = .ok (.invokestatic 102, 3) := by decide +kernel
theorem dX0_tellPairs_47 : decode cX0_tellPairs 47 = .ok (.aload_n 0, 1) := by decide +kernel
theorem dX0_tellPairs_48 : decode cX0_tellPairs 48 = .ok (.getfield 62, 3) := by decide +kernel
theorem dX0_tellPairs_51 : decode cX0_tellPairs 51 = .ok (.getfield 106, 3) := by decide +kernel
theorem dX0_tellPairs_54 : decode cX0_tellPairs 54 = .ok (.iload_n 1, 1) := by decide +kernel
theorem dX0_tellPairs_55 : decode cX0_tellPairs 55 = .ok (.invokestatic 102, 3) := by decide +kernel
theorem dX0_tellPairs_58 : decode cX0_tellPairs 58 = .ok (.invokestatic 145, 3) := by decide +kernel
theorem dX0_tellPairs_61 : decode cX0_tellPairs 61 = .ok (.iconst 0, 1) := by decide +kernel
theorem dX0_tellPairs_62 : decode cX0_tellPairs 62 = .ok (.invokestatic 115, 3) := by decide +kernel
theorem dX0_tellPairs_65 : decode cX0_tellPairs 65 = .ok (.iinc 1 1, 3) := by decide +kernel
theorem dX0_tellPairs_68 : decode cX0_tellPairs 68 = .ok (.goto (-58), 3) := by decide +kernel
theorem dX0_tellPairs_71 : decode cX0_tellPairs 71 = .ok (.return_, 1) := by decide +kernel
def rmX0_tellPairs : Room := rmk 8 0 0 192
theorem nX0_tellPairs : nameOk yX0_tellPairs 0 = true := by decide +kernel
def bX0_tellPairs_0 (J : JT) : List Value → Sem
  | [.ref x0] =>
    gR 0 7 x0 fun r1 =>
    cV SX10_fill [.ref r1, .int (-1)] <|
    J 1 [.ref x0, .int 0]
  | _ => no
def bX0_tellPairs_1 (J : JT) : List Value → Sem
  | [.ref x0, .int x1] =>
    gR 0 1 x0 fun r1 =>
    gI 6 6 r1 fun v2 =>
    br (v2 ≤ x1)
    (rV)
    (gR 0 1 x0 fun r3 =>
    ob 6 r3 (cI SX6_counts [.ref r3, .int x1] fun v4 =>
    br (v4 = 0)
    (J 1 [.ref x0, .int (x1 + 1)])
    (gR 0 7 x0 fun r5 =>
    gR 0 1 x0 fun r6 =>
    gR 6 7 r6 fun r7 =>
    cI SX10_cell [.ref r7, .int x1] fun v8 =>
    gR 0 1 x0 fun r9 =>
    gR 6 8 r9 fun r10 =>
    cI SX10_cell [.ref r10, .int x1] fun v11 =>
    cI SX10_pairOf [.int v8, .int v11] fun v12 =>
    cV SX10_put [.ref r5, .int v12, .int 0] <|
    J 1 [.ref x0, .int (x1 + 1)])))
  | _ => no
def bX0_tellPairs (J : JT) : JT := fun L a => match L with
  | 0 => bX0_tellPairs_0 J a
  | 1 => bX0_tellPairs_1 J a
  | _ => no
def SX0_tellPairs : ST := mk 2 bX0_tellPairs
def lX0_tellPairs (L : Nat) (a : List Value) : Nat × Nat × Nat × List (Nat × Value) × List Value := match L with
  | 0 => (0, 0, 0, lv_args 0 a, [])
  | 1 => (0, 0, 10, List.zip [0, 1] a, [])
  | _ => (0, 0, 0, [], [])
theorem pX0_tellPairs_0 {Γ : CT} (hC : Ctx Γ "SpiritWall$Edges" cX0_tellPairs 2 none rmX0_tellPairs) (hnt : NT Γ) (J : JT) (hJ : ∀ L a, Cor Γ 2 (lX0_tellPairs L a).1 (lX0_tellPairs L a).2.1 (lX0_tellPairs L a).2.2.1 (lX0_tellPairs L a).2.2.2.1 (lX0_tellPairs L a).2.2.2.2 (J L a)) (a : List Value) : Cor Γ 2 0 0 0 (lv_args 0 a) [] (bX0_tellPairs_0 J a) := by
  unfold bX0_tellPairs_0
  split
  · rename_i x0
    refine c_sub [0] rfl (loc' := [(0, .ref x0)]) ?_
    refine q_aload_n hC 0 dX0_tellPairs_0 rfl rfl ?_
    refine q_getR hC (by decide) (by decide) rfl w_89 dX0_tellPairs_1 (fun r1 => ?_)
    refine q_iconst hC dX0_tellPairs_4 rfl ?_
    refine q_cNV hC hnt (stk := []) (as := [.ref r1, .int (-1)]) sX10_fill nX10_fill rfl w_391 w_199 w_27 w_198 (Nat.le_of_ble_eq_true rfl) dX0_tellPairs_5 rfl ?_
    refine q_iconst hC dX0_tellPairs_8 rfl ?_
    refine q_istore_nA hC (loc' := [(1, .int 0), (0, .ref x0)]) dX0_tellPairs_9 rfl (Nat.le_of_ble_eq_true rfl) rfl ?_
    exact c_sub [1, 0] rfl (hJ 1 [.ref x0, .int 0])
  · exact c_no
theorem pX0_tellPairs_1 {Γ : CT} (hC : Ctx Γ "SpiritWall$Edges" cX0_tellPairs 2 none rmX0_tellPairs) (hnt : NT Γ) (J : JT) (hJ : ∀ L a, Cor Γ 2 (lX0_tellPairs L a).1 (lX0_tellPairs L a).2.1 (lX0_tellPairs L a).2.2.1 (lX0_tellPairs L a).2.2.2.1 (lX0_tellPairs L a).2.2.2.2 (J L a)) (a : List Value) : Cor Γ 2 0 0 10 (List.zip [0, 1] a) [] (bX0_tellPairs_1 J a) := by
  unfold bX0_tellPairs_1
  split
  · rename_i x0 x1
    refine c_sub [0, 1] rfl (loc' := [(0, .ref x0), (1, .int x1)]) ?_
    refine q_iload_n hC 1 dX0_tellPairs_10 rfl rfl ?_
    refine q_aload_n hC 0 dX0_tellPairs_11 rfl rfl ?_
    refine q_getR hC (by decide) (by decide) rfl w_100 dX0_tellPairs_12 (fun r1 => ?_)
    refine q_getI hC (by decide) (by decide) rfl w_366 dX0_tellPairs_15 (fun v2 => ?_)
    refine q_ic_ge hC 71 dX0_tellPairs_18 rfl ?_ ?_
    · exact q_vret hC dX0_tellPairs_71 (Nat.le_of_ble_eq_true rfl) (Nat.le_of_ble_eq_true rfl)
    · refine q_aload_n hC 0 dX0_tellPairs_21 rfl rfl ?_
      refine q_getR hC (by decide) (by decide) rfl w_100 dX0_tellPairs_22 (fun r3 => ?_)
      refine q_iload_n hC 1 dX0_tellPairs_25 rfl rfl ?_
      refine q_cVI hC hnt (stk := []) (as := [.int x1]) sX6_counts (ci := 6) (by decide) rfl nX6_counts rfl w_392 w_394 w_395 w_35 w_393 (Nat.le_of_ble_eq_true rfl) dX0_tellPairs_26 rfl (fun v4 => ?_)
      refine q_if_eq hC 65 dX0_tellPairs_29 rfl ?_ ?_
      · refine q_iincA hC (loc' := [(1, .int (x1 + 1)), (0, .ref x0)]) 1 1 dX0_tellPairs_65 rfl rfl (Nat.le_of_ble_eq_true rfl) rfl ?_
        refine q_goto hC 10 dX0_tellPairs_68 rfl ?_
        exact c_sub [1, 0] rfl (hJ 1 [.ref x0, .int (x1 + 1)])
      · refine q_aload_n hC 0 dX0_tellPairs_32 rfl rfl ?_
        refine q_getR hC (by decide) (by decide) rfl w_89 dX0_tellPairs_33 (fun r5 => ?_)
        refine q_aload_n hC 0 dX0_tellPairs_36 rfl rfl ?_
        refine q_getR hC (by decide) (by decide) rfl w_100 dX0_tellPairs_37 (fun r6 => ?_)
        refine q_getR hC (by decide) (by decide) rfl w_367 dX0_tellPairs_40 (fun r7 => ?_)
        refine q_iload_n hC 1 dX0_tellPairs_43 rfl rfl ?_
        refine q_cNI hC hnt (stk := [.ref r5]) (as := [.ref r7, .int x1]) sX10_cell nX10_cell rfl w_352 w_202 w_27 w_201 (Nat.le_of_ble_eq_true rfl) dX0_tellPairs_44 rfl (fun v8 => ?_)
        refine q_aload_n hC 0 dX0_tellPairs_47 rfl rfl ?_
        refine q_getR hC (by decide) (by decide) rfl w_100 dX0_tellPairs_48 (fun r9 => ?_)
        refine q_getR hC (by decide) (by decide) rfl w_368 dX0_tellPairs_51 (fun r10 => ?_)
        refine q_iload_n hC 1 dX0_tellPairs_54 rfl rfl ?_
        refine q_cNI hC hnt (stk := [.int v8, .ref r5]) (as := [.ref r10, .int x1]) sX10_cell nX10_cell rfl w_352 w_202 w_27 w_201 (Nat.le_of_ble_eq_true rfl) dX0_tellPairs_55 rfl (fun v11 => ?_)
        refine q_cNI hC hnt (stk := [.ref r5]) (as := [.int v8, .int v11]) sX10_pairOf nX10_pairOf rfl w_396 w_398 w_27 w_397 (Nat.le_of_ble_eq_true rfl) dX0_tellPairs_58 rfl (fun v12 => ?_)
        refine q_iconst hC dX0_tellPairs_61 rfl ?_
        refine q_cNV hC hnt (stk := []) (as := [.ref r5, .int v12, .int 0]) sX10_put nX10_put rfl w_373 w_187 w_27 w_186 (Nat.le_of_ble_eq_true rfl) dX0_tellPairs_62 rfl ?_
        refine q_iincA hC (loc' := [(1, .int (x1 + 1)), (0, .ref x0)]) 1 1 dX0_tellPairs_65 rfl rfl (Nat.le_of_ble_eq_true rfl) rfl ?_
        refine q_goto hC 10 dX0_tellPairs_68 rfl ?_
        exact c_sub [1, 0] rfl (hJ 1 [.ref x0, .int (x1 + 1)])
  · exact c_no
theorem sX0_tellPairs : Snd yX0_tellPairs (.code yX0_tellPairs cX0_tellPairs 2 none) rmX0_tellPairs SX0_tellPairs := by
  refine Snd.of lX0_tellPairs (by decide +kernel) (fun _ => rfl) ?_
  intro Γ hC hnt hnm J hJ L a
  match L with
  | 0 => exact pX0_tellPairs_0 hC hnt J hJ a
  | 1 => exact pX0_tellPairs_1 hC hnt J hJ a
  | L + 2 => exact c_no
/-! SpiritWall$Edges.addEdge(II)V -/
theorem dX0_addEdge_0 : decode cX0_addEdge 0 = .ok (.aload_n 0, 1) := by decide +kernel
theorem dX0_addEdge_1 : decode cX0_addEdge 1 = .ok (.getfield 28, 3) := by decide +kernel
theorem dX0_addEdge_4 : decode cX0_addEdge 4 = .ok (.iload_n 1, 1) := by decide +kernel
theorem dX0_addEdge_5 : decode cX0_addEdge 5 = .ok (.iload_n 2, 1) := by decide +kernel
theorem dX0_addEdge_6 : decode cX0_addEdge 6 = .ok (.invokestatic 145, 3) := by decide +kernel
theorem dX0_addEdge_9 : decode cX0_addEdge 9 = .ok (.aload_n 0, 1) := by decide +kernel
theorem dX0_addEdge_10 : decode cX0_addEdge 10 = .ok (.getfield 15, 3) := by decide +kernel
theorem dX0_addEdge_13 : decode cX0_addEdge 13 = .ok (.invokestatic 115, 3) := by decide +kernel
theorem dX0_addEdge_16 : decode cX0_addEdge 16 = .ok (.aload_n 0, 1) := by decide +kernel
theorem dX0_addEdge_17 : decode cX0_addEdge 17 = .ok (.getfield 31, 3) := by decide +kernel
theorem dX0_addEdge_20 : decode cX0_addEdge 20 = .ok (.aload_n 0, 1) := by decide +kernel
theorem dX0_addEdge_21 : decode cX0_addEdge 21 = .ok (.getfield 15, 3) := by decide +kernel
theorem dX0_addEdge_24 : decode cX0_addEdge 24 = .ok (.iload_n 1, 1) := by decide +kernel
theorem dX0_addEdge_25 : decode cX0_addEdge 25 = .ok (.invokestatic 115, 3) := by decide +kernel
theorem dX0_addEdge_28 : decode cX0_addEdge 28 = .ok (.aload_n 0, 1) := by decide +kernel
theorem dX0_addEdge_29 : decode cX0_addEdge 29 = .ok (.getfield 34, 3) := by decide +kernel
theorem dX0_addEdge_32 : decode cX0_addEdge 32 = .ok (.aload_n 0, 1) := by decide +kernel
theorem dX0_addEdge_33 : decode cX0_addEdge 33 = .ok (.getfield 15, 3) := by decide +kernel
theorem dX0_addEdge_36 : decode cX0_addEdge 36 = .ok (.iload_n 2, 1) := by decide +kernel
theorem dX0_addEdge_37 : decode cX0_addEdge 37 = .ok (.invokestatic 115, 3) := by decide +kernel
theorem dX0_addEdge_40 : decode cX0_addEdge 40 = .ok (.aload_n 0, 1) := by decide +kernel
theorem dX0_addEdge_41 : decode cX0_addEdge 41 = .ok (.getfield 37, 3) := by decide +kernel
theorem dX0_addEdge_44 : decode cX0_addEdge 44 = .ok (.aload_n 0, 1) := by decide +kernel
theorem dX0_addEdge_45 : decode cX0_addEdge 45 = .ok (.getfield 15, 3) := by decide +kernel
theorem dX0_addEdge_48 : decode cX0_addEdge 48 = .ok (.aload_n 0, 1) := by decide +kernel
theorem dX0_addEdge_49 : decode cX0_addEdge 49 = .ok (.getfield 58, 3) := by decide +kernel
theorem dX0_addEdge_52 : decode cX0_addEdge 52 = .ok (.iload_n 1, 1) := by decide +kernel
theorem dX0_addEdge_53 : decode cX0_addEdge 53 = .ok (.iload_n 2, 1) := by decide +kernel
theorem dX0_addEdge_54 : decode cX0_addEdge 54 = .ok (.invokevirtual 109, 3) := by decide +kernel
theorem dX0_addEdge_57 : decode cX0_addEdge 57 = .ok (.invokestatic 115, 3) := by decide +kernel
theorem dX0_addEdge_60 : decode cX0_addEdge 60 = .ok (.aload_n 0, 1) := by decide +kernel
theorem dX0_addEdge_61 : decode cX0_addEdge 61 = .ok (.getfield 40, 3) := by decide +kernel
theorem dX0_addEdge_64 : decode cX0_addEdge 64 = .ok (.aload_n 0, 1) := by decide +kernel
theorem dX0_addEdge_65 : decode cX0_addEdge 65 = .ok (.getfield 15, 3) := by decide +kernel
theorem dX0_addEdge_68 : decode cX0_addEdge 68 = .ok (.iconst 0, 1) := by decide +kernel
theorem dX0_addEdge_69 : decode cX0_addEdge 69 = .ok (.invokestatic 115, 3) := by decide +kernel
theorem dX0_addEdge_72 : decode cX0_addEdge 72 = .ok (.aload_n 0, 1) := by decide +kernel
theorem dX0_addEdge_73 : decode cX0_addEdge 73 = .ok (.getfield 43, 3) := by decide +kernel
theorem dX0_addEdge_76 : decode cX0_addEdge 76 = .ok (.aload_n 0, 1) := by decide +kernel
theorem dX0_addEdge_77 : decode cX0_addEdge 77 = .ok (.getfield 15, 3) := by decide +kernel
theorem dX0_addEdge_80 : decode cX0_addEdge 80 = .ok (.iconst 0, 1) := by decide +kernel
theorem dX0_addEdge_81 : decode cX0_addEdge 81 = .ok (.invokestatic 115, 3) := by decide +kernel
theorem dX0_addEdge_84 : decode cX0_addEdge 84 = .ok (.aload_n 0, 1) := by decide +kernel
theorem dX0_addEdge_85 : decode cX0_addEdge 85 = .ok (.getfield 46, 3) := by decide +kernel
theorem dX0_addEdge_88 : decode cX0_addEdge 88 = .ok (.aload_n 0, 1) := by decide +kernel
theorem dX0_addEdge_89 : decode cX0_addEdge 89 = .ok (.getfield 15, 3) := by decide +kernel
theorem dX0_addEdge_92 : decode cX0_addEdge 92 = .ok (.iconst 0, 1) := by decide +kernel
theorem dX0_addEdge_93 : decode cX0_addEdge 93 = .ok (.invokestatic 115, 3) := by decide +kernel
theorem dX0_addEdge_96 : decode cX0_addEdge 96 = .ok (.aload_n 0, 1) := by decide +kernel
theorem dX0_addEdge_97 : decode cX0_addEdge 97 = .ok (.getfield 49, 3) := by decide +kernel
theorem dX0_addEdge_100 : decode cX0_addEdge 100 = .ok (.aload_n 0, 1) := by decide +kernel
theorem dX0_addEdge_101 : decode cX0_addEdge 101 = .ok (.getfield 15, 3) := by decide +kernel
theorem dX0_addEdge_104 : decode cX0_addEdge 104 = .ok (.iconst 0, 1) := by decide +kernel
theorem dX0_addEdge_105 : decode cX0_addEdge 105 = .ok (.invokestatic 115, 3) := by decide +kernel
theorem dX0_addEdge_108 : decode cX0_addEdge 108 = .ok (.aload_n 0, 1) := by decide +kernel
theorem dX0_addEdge_109 : decode cX0_addEdge 109 = .ok (.getfield 52, 3) := by decide +kernel
theorem dX0_addEdge_112 : decode cX0_addEdge 112 = .ok (.aload_n 0, 1) := by decide +kernel
theorem dX0_addEdge_113 : decode cX0_addEdge 113 = .ok (.getfield 15, 3) := by decide +kernel
theorem dX0_addEdge_116 : decode cX0_addEdge 116 = .ok (.iconst 0, 1) := by decide +kernel
theorem dX0_addEdge_117 : decode cX0_addEdge 117 = .ok (.invokestatic 115, 3) := by decide +kernel
theorem dX0_addEdge_120 : decode cX0_addEdge 120 = .ok (.aload_n 0, 1) := by decide +kernel
theorem dX0_addEdge_121 : decode cX0_addEdge 121 = .ok (.dup, 1) := by decide +kernel
theorem dX0_addEdge_122 : decode cX0_addEdge 122 = .ok (.getfield 15, 3) := by decide +kernel
theorem dX0_addEdge_125 : decode cX0_addEdge 125 = .ok (.iconst 1, 1) := by decide +kernel
theorem dX0_addEdge_126 : decode cX0_addEdge 126 = .ok (.iadd, 1) := by decide +kernel
theorem dX0_addEdge_127 : decode cX0_addEdge 127 = .ok (.putfield 15, 3) := by decide +kernel
theorem dX0_addEdge_130 : decode cX0_addEdge 130 = .ok (.return_, 1) := by decide +kernel
def rmX0_addEdge : Room := rmk 8 0 0 194
theorem nX0_addEdge : nameOk yX0_addEdge 2 = true := by decide +kernel
def bX0_addEdge_0 (J : JT) : List Value → Sem
  | [.ref x0, .int x1, .int x2] =>
    gR 0 7 x0 fun r1 =>
    cI SX10_pairOf [.int x1, .int x2] fun v2 =>
    gI 0 3 x0 fun v3 =>
    cV SX10_put [.ref r1, .int v2, .int v3] <|
    gR 0 8 x0 fun r4 =>
    gI 0 3 x0 fun v5 =>
    cV SX10_put [.ref r4, .int v5, .int x1] <|
    gR 0 9 x0 fun r6 =>
    gI 0 3 x0 fun v7 =>
    cV SX10_put [.ref r6, .int v7, .int x2] <|
    gR 0 10 x0 fun r8 =>
    gI 0 3 x0 fun v9 =>
    gR 0 0 x0 fun r10 =>
    ob 9 r10 (cI SX9_distance [.ref r10, .int x1, .int x2] fun v11 =>
    cV SX10_put [.ref r8, .int v9, .int v11] <|
    gR 0 11 x0 fun r12 =>
    gI 0 3 x0 fun v13 =>
    cV SX10_put [.ref r12, .int v13, .int 0] <|
    gR 0 12 x0 fun r14 =>
    gI 0 3 x0 fun v15 =>
    cV SX10_put [.ref r14, .int v15, .int 0] <|
    gR 0 13 x0 fun r16 =>
    gI 0 3 x0 fun v17 =>
    cV SX10_put [.ref r16, .int v17, .int 0] <|
    gR 0 14 x0 fun r18 =>
    gI 0 3 x0 fun v19 =>
    cV SX10_put [.ref r18, .int v19, .int 0] <|
    gR 0 15 x0 fun r20 =>
    gI 0 3 x0 fun v21 =>
    cV SX10_put [.ref r20, .int v21, .int 0] <|
    gI 0 3 x0 fun v22 =>
    pI 0 3 x0 (v22 + 1) <|
    rV)
  | _ => no
def bX0_addEdge (J : JT) : JT := fun L a => match L with
  | 0 => bX0_addEdge_0 J a
  | _ => no
def SX0_addEdge : ST := mk 3 bX0_addEdge
def lX0_addEdge (L : Nat) (a : List Value) : Nat × Nat × Nat × List (Nat × Value) × List Value := match L with
  | 0 => (0, 0, 0, lv_args 0 a, [])
  | _ => (0, 0, 0, [], [])
theorem pX0_addEdge_0 {Γ : CT} (hC : Ctx Γ "SpiritWall$Edges" cX0_addEdge 3 none rmX0_addEdge) (hnt : NT Γ) (J : JT) (hJ : ∀ L a, Cor Γ 3 (lX0_addEdge L a).1 (lX0_addEdge L a).2.1 (lX0_addEdge L a).2.2.1 (lX0_addEdge L a).2.2.2.1 (lX0_addEdge L a).2.2.2.2 (J L a)) (a : List Value) : Cor Γ 3 0 0 0 (lv_args 0 a) [] (bX0_addEdge_0 J a) := by
  unfold bX0_addEdge_0
  split
  · rename_i x0 x1 x2
    refine c_sub [0, 1, 2] rfl (loc' := [(0, .ref x0), (1, .int x1), (2, .int x2)]) ?_
    refine q_aload_n hC 0 dX0_addEdge_0 rfl rfl ?_
    refine q_getR hC (by decide) (by decide) rfl w_89 dX0_addEdge_1 (fun r1 => ?_)
    refine q_iload_n hC 1 dX0_addEdge_4 rfl rfl ?_
    refine q_iload_n hC 2 dX0_addEdge_5 rfl rfl ?_
    refine q_cNI hC hnt (stk := [.ref r1]) (as := [.int x1, .int x2]) sX10_pairOf nX10_pairOf rfl w_396 w_398 w_27 w_397 (Nat.le_of_ble_eq_true rfl) dX0_addEdge_6 rfl (fun v2 => ?_)
    refine q_aload_n hC 0 dX0_addEdge_9 rfl rfl ?_
    refine q_getI hC (by decide) (by decide) rfl w_85 dX0_addEdge_10 (fun v3 => ?_)
    refine q_cNV hC hnt (stk := []) (as := [.ref r1, .int v2, .int v3]) sX10_put nX10_put rfl w_373 w_187 w_27 w_186 (Nat.le_of_ble_eq_true rfl) dX0_addEdge_13 rfl ?_
    refine q_aload_n hC 0 dX0_addEdge_16 rfl rfl ?_
    refine q_getR hC (by decide) (by decide) rfl w_90 dX0_addEdge_17 (fun r4 => ?_)
    refine q_aload_n hC 0 dX0_addEdge_20 rfl rfl ?_
    refine q_getI hC (by decide) (by decide) rfl w_85 dX0_addEdge_21 (fun v5 => ?_)
    refine q_iload_n hC 1 dX0_addEdge_24 rfl rfl ?_
    refine q_cNV hC hnt (stk := []) (as := [.ref r4, .int v5, .int x1]) sX10_put nX10_put rfl w_373 w_187 w_27 w_186 (Nat.le_of_ble_eq_true rfl) dX0_addEdge_25 rfl ?_
    refine q_aload_n hC 0 dX0_addEdge_28 rfl rfl ?_
    refine q_getR hC (by decide) (by decide) rfl w_91 dX0_addEdge_29 (fun r6 => ?_)
    refine q_aload_n hC 0 dX0_addEdge_32 rfl rfl ?_
    refine q_getI hC (by decide) (by decide) rfl w_85 dX0_addEdge_33 (fun v7 => ?_)
    refine q_iload_n hC 2 dX0_addEdge_36 rfl rfl ?_
    refine q_cNV hC hnt (stk := []) (as := [.ref r6, .int v7, .int x2]) sX10_put nX10_put rfl w_373 w_187 w_27 w_186 (Nat.le_of_ble_eq_true rfl) dX0_addEdge_37 rfl ?_
    refine q_aload_n hC 0 dX0_addEdge_40 rfl rfl ?_
    refine q_getR hC (by decide) (by decide) rfl w_92 dX0_addEdge_41 (fun r8 => ?_)
    refine q_aload_n hC 0 dX0_addEdge_44 rfl rfl ?_
    refine q_getI hC (by decide) (by decide) rfl w_85 dX0_addEdge_45 (fun v9 => ?_)
    refine q_aload_n hC 0 dX0_addEdge_48 rfl rfl ?_
    refine q_getR hC (by decide) (by decide) rfl w_99 dX0_addEdge_49 (fun r10 => ?_)
    refine q_iload_n hC 1 dX0_addEdge_52 rfl rfl ?_
    refine q_iload_n hC 2 dX0_addEdge_53 rfl rfl ?_
    refine q_cVI hC hnt (stk := [.int v9, .ref r8]) (as := [.int x1, .int x2]) sX9_distance (ci := 9) (by decide) rfl nX9_distance rfl w_369 w_371 w_372 w_65 w_370 (Nat.le_of_ble_eq_true rfl) dX0_addEdge_54 rfl (fun v11 => ?_)
    refine q_cNV hC hnt (stk := []) (as := [.ref r8, .int v9, .int v11]) sX10_put nX10_put rfl w_373 w_187 w_27 w_186 (Nat.le_of_ble_eq_true rfl) dX0_addEdge_57 rfl ?_
    refine q_aload_n hC 0 dX0_addEdge_60 rfl rfl ?_
    refine q_getR hC (by decide) (by decide) rfl w_93 dX0_addEdge_61 (fun r12 => ?_)
    refine q_aload_n hC 0 dX0_addEdge_64 rfl rfl ?_
    refine q_getI hC (by decide) (by decide) rfl w_85 dX0_addEdge_65 (fun v13 => ?_)
    refine q_iconst hC dX0_addEdge_68 rfl ?_
    refine q_cNV hC hnt (stk := []) (as := [.ref r12, .int v13, .int 0]) sX10_put nX10_put rfl w_373 w_187 w_27 w_186 (Nat.le_of_ble_eq_true rfl) dX0_addEdge_69 rfl ?_
    refine q_aload_n hC 0 dX0_addEdge_72 rfl rfl ?_
    refine q_getR hC (by decide) (by decide) rfl w_94 dX0_addEdge_73 (fun r14 => ?_)
    refine q_aload_n hC 0 dX0_addEdge_76 rfl rfl ?_
    refine q_getI hC (by decide) (by decide) rfl w_85 dX0_addEdge_77 (fun v15 => ?_)
    refine q_iconst hC dX0_addEdge_80 rfl ?_
    refine q_cNV hC hnt (stk := []) (as := [.ref r14, .int v15, .int 0]) sX10_put nX10_put rfl w_373 w_187 w_27 w_186 (Nat.le_of_ble_eq_true rfl) dX0_addEdge_81 rfl ?_
    refine q_aload_n hC 0 dX0_addEdge_84 rfl rfl ?_
    refine q_getR hC (by decide) (by decide) rfl w_95 dX0_addEdge_85 (fun r16 => ?_)
    refine q_aload_n hC 0 dX0_addEdge_88 rfl rfl ?_
    refine q_getI hC (by decide) (by decide) rfl w_85 dX0_addEdge_89 (fun v17 => ?_)
    refine q_iconst hC dX0_addEdge_92 rfl ?_
    refine q_cNV hC hnt (stk := []) (as := [.ref r16, .int v17, .int 0]) sX10_put nX10_put rfl w_373 w_187 w_27 w_186 (Nat.le_of_ble_eq_true rfl) dX0_addEdge_93 rfl ?_
    refine q_aload_n hC 0 dX0_addEdge_96 rfl rfl ?_
    refine q_getR hC (by decide) (by decide) rfl w_96 dX0_addEdge_97 (fun r18 => ?_)
    refine q_aload_n hC 0 dX0_addEdge_100 rfl rfl ?_
    refine q_getI hC (by decide) (by decide) rfl w_85 dX0_addEdge_101 (fun v19 => ?_)
    refine q_iconst hC dX0_addEdge_104 rfl ?_
    refine q_cNV hC hnt (stk := []) (as := [.ref r18, .int v19, .int 0]) sX10_put nX10_put rfl w_373 w_187 w_27 w_186 (Nat.le_of_ble_eq_true rfl) dX0_addEdge_105 rfl ?_
    refine q_aload_n hC 0 dX0_addEdge_108 rfl rfl ?_
    refine q_getR hC (by decide) (by decide) rfl w_97 dX0_addEdge_109 (fun r20 => ?_)
    refine q_aload_n hC 0 dX0_addEdge_112 rfl rfl ?_
    refine q_getI hC (by decide) (by decide) rfl w_85 dX0_addEdge_113 (fun v21 => ?_)
    refine q_iconst hC dX0_addEdge_116 rfl ?_
    refine q_cNV hC hnt (stk := []) (as := [.ref r20, .int v21, .int 0]) sX10_put nX10_put rfl w_373 w_187 w_27 w_186 (Nat.le_of_ble_eq_true rfl) dX0_addEdge_117 rfl ?_
    refine q_aload_n hC 0 dX0_addEdge_120 rfl rfl ?_
    refine q_dup hC dX0_addEdge_121 ?_
    refine q_getI hC (by decide) (by decide) rfl w_85 dX0_addEdge_122 (fun v22 => ?_)
    refine q_iconst hC dX0_addEdge_125 rfl ?_
    refine q_iadd hC dX0_addEdge_126 ?_
    refine q_putI hC (by decide) (by decide) rfl rfl w_85 dX0_addEdge_127 ?_
    exact q_vret hC dX0_addEdge_130 (Nat.le_of_ble_eq_true rfl) (Nat.le_of_ble_eq_true rfl)
  · exact c_no
theorem sX0_addEdge : Snd yX0_addEdge (.code yX0_addEdge cX0_addEdge 3 none) rmX0_addEdge SX0_addEdge := by
  refine Snd.of lX0_addEdge (by decide +kernel) (fun _ => rfl) ?_
  intro Γ hC hnt hnm J hJ L a
  match L with
  | 0 => exact pX0_addEdge_0 hC hnt J hJ a
  | L + 1 => exact c_no
/-! SpiritWall$Edges.numberEdges()V -/
theorem dX0_numberEdges_0 : decode cX0_numberEdges 0 = .ok (.aload_n 0, 1) := by decide +kernel
theorem dX0_numberEdges_1 : decode cX0_numberEdges 1 = .ok (.iconst 0, 1) := by decide +kernel
theorem dX0_numberEdges_2 : decode cX0_numberEdges 2 = .ok (.putfield 15, 3) := by decide +kernel
theorem dX0_numberEdges_5 : decode cX0_numberEdges 5 = .ok (.iconst 0, 1) := by decide +kernel
theorem dX0_numberEdges_6 : decode cX0_numberEdges 6 = .ok (.istore_n 1, 1) := by decide +kernel
theorem dX0_numberEdges_7 : decode cX0_numberEdges 7 = .ok (.iload_n 1, 1) := by decide +kernel
theorem dX0_numberEdges_8 : decode cX0_numberEdges 8 = .ok (.aload_n 0, 1) := by decide +kernel
theorem dX0_numberEdges_9 : decode cX0_numberEdges 9 = .ok (.getfield 58, 3) := by decide +kernel
theorem dX0_numberEdges_12 : decode cX0_numberEdges 12 = .ok (.getfield 148, 3) := by decide +kernel
theorem dX0_numberEdges_15 : decode cX0_numberEdges 15 = .ok (.if_icmp .ge 52, 3) := by decide +kernel
theorem dX0_numberEdges_18 : decode cX0_numberEdges 18 = .ok (.iload_n 1, 1) := by decide +kernel
theorem dX0_numberEdges_19 : decode cX0_numberEdges 19 = .ok (.iconst 1, 1) := by decide +kernel
theorem dX0_numberEdges_20 : decode cX0_numberEdges 20 = .ok (.iadd, 1) := by decide +kernel
theorem dX0_numberEdges_21 : decode cX0_numberEdges 21 = .ok (.istore_n 2, 1) := by decide +kernel
theorem dX0_numberEdges_22 : decode cX0_numberEdges 22 = .ok (.iload_n 2, 1) := by decide +kernel
theorem dX0_numberEdges_23 : decode cX0_numberEdges 23 = .ok (.aload_n 0, 1) := by decide +kernel
theorem dX0_numberEdges_24 : decode cX0_numberEdges 24 = .ok (.getfield 58, 3) := by decide +kernel
theorem dX0_numberEdges_27 : decode cX0_numberEdges 27 = .ok (.getfield 148, 3) := by decide +kernel
theorem dX0_numberEdges_30 : decode cX0_numberEdges 30 = .ok (.if_icmp .ge 31, 3) := by decide +kernel
theorem dX0_numberEdges_33 : decode cX0_numberEdges 33 = .ok (.aload_n 0, 1) := by decide +kernel
theorem dX0_numberEdges_34 : decode cX0_numberEdges 34 = .ok (.getfield 28, 3) := by decide +kernel
theorem dX0_numberEdges_37 : decode cX0_numberEdges 37 = .ok (.iload_n 1, 1) := by decide +kernel
theorem dX0_numberEdges_38 : decode cX0_numberEdges 38 = .ok (.iload_n 2, 1) := by decide +kernel
theorem dX0_numberEdges_39 : decode cX0_numberEdges 39 = .ok (.invokestatic 145, 3) := by decide +kernel
theorem dX0_numberEdges_42 : decode cX0_numberEdges 42 = .ok (.invokestatic 102, 3) := by decide +kernel
theorem dX0_numberEdges_45 : decode cX0_numberEdges 45 = .ok (.iconst (-1), 1) := by decide +kernel
theorem dX0_numberEdges_46 : decode cX0_numberEdges 46 = .ok (.if_icmp .eq 9, 3) := by decide +kernel
theorem dX0_numberEdges_49 : decode cX0_numberEdges 49 = .ok (.aload_n 0, 1) := by decide +kernel
theorem dX0_numberEdges_50 : decode cX0_numberEdges 50 = .ok (.iload_n 1, 1) := by decide +kernel
theorem dX0_numberEdges_51 : decode cX0_numberEdges 51 = .ok (.iload_n 2, 1) := by decide +kernel
theorem dX0_numberEdges_52 : decode cX0_numberEdges 52 = .ok (.invokevirtual 151, 3) := by decide +kernel
theorem dX0_numberEdges_55 : decode cX0_numberEdges 55 = .ok (.iinc 2 1, 3) := by decide +kernel
theorem dX0_numberEdges_58 : decode cX0_numberEdges 58 = .ok (.goto (-36), 3) := by decide +kernel
theorem dX0_numberEdges_61 : decode cX0_numberEdges 61 = .ok (.iinc 1 1, 3) := by decide +kernel
theorem dX0_numberEdges_64 : decode cX0_numberEdges 64 = .ok (.goto (-57), 3) := by decide +kernel
theorem dX0_numberEdges_67 : decode cX0_numberEdges 67 = .ok (.return_, 1) := by decide +kernel
def rmX0_numberEdges : Room := rmk 9 0 0 216
theorem nX0_numberEdges : nameOk yX0_numberEdges 0 = true := by decide +kernel
def bX0_numberEdges_0 (J : JT) : List Value → Sem
  | [.ref x0] =>
    pI 0 3 x0 0 <|
    J 1 [.ref x0, .int 0]
  | _ => no
def bX0_numberEdges_1 (J : JT) : List Value → Sem
  | [.ref x0, .int x1] =>
    gR 0 0 x0 fun r1 =>
    gI 9 0 r1 fun v2 =>
    br (v2 ≤ x1)
    (rV)
    (lI (x1 + 1) fun y2_3 =>
    J 2 [.ref x0, .int x1, .int y2_3])
  | _ => no
def bX0_numberEdges_2 (J : JT) : List Value → Sem
  | [.ref x0, .int x1, .int x2] =>
    gR 0 0 x0 fun r1 =>
    gI 9 0 r1 fun v2 =>
    br (v2 ≤ x2)
    (J 1 [.ref x0, .int (x1 + 1)])
    (gR 0 7 x0 fun r3 =>
    cI SX10_pairOf [.int x1, .int x2] fun v4 =>
    cI SX10_cell [.ref r3, .int v4] fun v5 =>
    br (v5 = ((-1) : Int32))
    (J 2 [.ref x0, .int x1, .int (x2 + 1)])
    (ob 0 x0 (cV SX0_addEdge [.ref x0, .int x1, .int x2] <|
    J 2 [.ref x0, .int x1, .int (x2 + 1)])))
  | _ => no
def bX0_numberEdges (J : JT) : JT := fun L a => match L with
  | 0 => bX0_numberEdges_0 J a
  | 1 => bX0_numberEdges_1 J a
  | 2 => bX0_numberEdges_2 J a
  | _ => no
def SX0_numberEdges : ST := mk 3 bX0_numberEdges
def lX0_numberEdges (L : Nat) (a : List Value) : Nat × Nat × Nat × List (Nat × Value) × List Value := match L with
  | 0 => (0, 0, 0, lv_args 0 a, [])
  | 1 => (0, 0, 7, List.zip [0, 1] a, [])
  | 2 => (0, 0, 22, List.zip [0, 1, 2] a, [])
  | _ => (0, 0, 0, [], [])
theorem pX0_numberEdges_0 {Γ : CT} (hC : Ctx Γ "SpiritWall$Edges" cX0_numberEdges 3 none rmX0_numberEdges) (hnt : NT Γ) (J : JT) (hJ : ∀ L a, Cor Γ 3 (lX0_numberEdges L a).1 (lX0_numberEdges L a).2.1 (lX0_numberEdges L a).2.2.1 (lX0_numberEdges L a).2.2.2.1 (lX0_numberEdges L a).2.2.2.2 (J L a)) (a : List Value) : Cor Γ 3 0 0 0 (lv_args 0 a) [] (bX0_numberEdges_0 J a) := by
  unfold bX0_numberEdges_0
  split
  · rename_i x0
    refine c_sub [0] rfl (loc' := [(0, .ref x0)]) ?_
    refine q_aload_n hC 0 dX0_numberEdges_0 rfl rfl ?_
    refine q_iconst hC dX0_numberEdges_1 rfl ?_
    refine q_putI hC (by decide) (by decide) rfl rfl w_85 dX0_numberEdges_2 ?_
    refine q_iconst hC dX0_numberEdges_5 rfl ?_
    refine q_istore_nA hC (loc' := [(1, .int 0), (0, .ref x0)]) dX0_numberEdges_6 rfl (Nat.le_of_ble_eq_true rfl) rfl ?_
    exact c_sub [1, 0] rfl (hJ 1 [.ref x0, .int 0])
  · exact c_no
theorem pX0_numberEdges_1 {Γ : CT} (hC : Ctx Γ "SpiritWall$Edges" cX0_numberEdges 3 none rmX0_numberEdges) (hnt : NT Γ) (J : JT) (hJ : ∀ L a, Cor Γ 3 (lX0_numberEdges L a).1 (lX0_numberEdges L a).2.1 (lX0_numberEdges L a).2.2.1 (lX0_numberEdges L a).2.2.2.1 (lX0_numberEdges L a).2.2.2.2 (J L a)) (a : List Value) : Cor Γ 3 0 0 7 (List.zip [0, 1] a) [] (bX0_numberEdges_1 J a) := by
  unfold bX0_numberEdges_1
  split
  · rename_i x0 x1
    refine c_sub [0, 1] rfl (loc' := [(0, .ref x0), (1, .int x1)]) ?_
    refine q_iload_n hC 1 dX0_numberEdges_7 rfl rfl ?_
    refine q_aload_n hC 0 dX0_numberEdges_8 rfl rfl ?_
    refine q_getR hC (by decide) (by decide) rfl w_99 dX0_numberEdges_9 (fun r1 => ?_)
    refine q_getI hC (by decide) (by decide) rfl w_399 dX0_numberEdges_12 (fun v2 => ?_)
    refine q_ic_ge hC 67 dX0_numberEdges_15 rfl ?_ ?_
    · exact q_vret hC dX0_numberEdges_67 (Nat.le_of_ble_eq_true rfl) (Nat.le_of_ble_eq_true rfl)
    · refine q_iload_n hC 1 dX0_numberEdges_18 rfl rfl ?_
      refine q_iconst hC dX0_numberEdges_19 rfl ?_
      refine q_iadd hC dX0_numberEdges_20 ?_
      refine q_istore_n hC (fun y2_3 => [(2, .int y2_3), (0, .ref x0), (1, .int x1)]) dX0_numberEdges_21 rfl (Nat.le_of_ble_eq_true rfl) (fun _ => rfl) (fun y2_3 => ?_)
      exact c_sub [1, 2, 0] rfl (hJ 2 [.ref x0, .int x1, .int y2_3])
  · exact c_no
theorem pX0_numberEdges_2 {Γ : CT} (hC : Ctx Γ "SpiritWall$Edges" cX0_numberEdges 3 none rmX0_numberEdges) (hnt : NT Γ) (J : JT) (hJ : ∀ L a, Cor Γ 3 (lX0_numberEdges L a).1 (lX0_numberEdges L a).2.1 (lX0_numberEdges L a).2.2.1 (lX0_numberEdges L a).2.2.2.1 (lX0_numberEdges L a).2.2.2.2 (J L a)) (a : List Value) : Cor Γ 3 0 0 22 (List.zip [0, 1, 2] a) [] (bX0_numberEdges_2 J a) := by
  unfold bX0_numberEdges_2
  split
  · rename_i x0 x1 x2
    refine c_sub [0, 1, 2] rfl (loc' := [(0, .ref x0), (1, .int x1), (2, .int x2)]) ?_
    refine q_iload_n hC 2 dX0_numberEdges_22 rfl rfl ?_
    refine q_aload_n hC 0 dX0_numberEdges_23 rfl rfl ?_
    refine q_getR hC (by decide) (by decide) rfl w_99 dX0_numberEdges_24 (fun r1 => ?_)
    refine q_getI hC (by decide) (by decide) rfl w_399 dX0_numberEdges_27 (fun v2 => ?_)
    refine q_ic_ge hC 61 dX0_numberEdges_30 rfl ?_ ?_
    · refine q_iincA hC (loc' := [(1, .int (x1 + 1)), (0, .ref x0), (2, .int x2)]) 1 1 dX0_numberEdges_61 rfl rfl (Nat.le_of_ble_eq_true rfl) rfl ?_
      refine q_goto hC 7 dX0_numberEdges_64 rfl ?_
      exact c_sub [1, 0] rfl (hJ 1 [.ref x0, .int (x1 + 1)])
    · refine q_aload_n hC 0 dX0_numberEdges_33 rfl rfl ?_
      refine q_getR hC (by decide) (by decide) rfl w_89 dX0_numberEdges_34 (fun r3 => ?_)
      refine q_iload_n hC 1 dX0_numberEdges_37 rfl rfl ?_
      refine q_iload_n hC 2 dX0_numberEdges_38 rfl rfl ?_
      refine q_cNI hC hnt (stk := [.ref r3]) (as := [.int x1, .int x2]) sX10_pairOf nX10_pairOf rfl w_396 w_398 w_27 w_397 (Nat.le_of_ble_eq_true rfl) dX0_numberEdges_39 rfl (fun v4 => ?_)
      refine q_cNI hC hnt (stk := []) (as := [.ref r3, .int v4]) sX10_cell nX10_cell rfl w_352 w_202 w_27 w_201 (Nat.le_of_ble_eq_true rfl) dX0_numberEdges_42 rfl (fun v5 => ?_)
      refine q_iconst hC dX0_numberEdges_45 rfl ?_
      refine q_ic_eq hC 55 dX0_numberEdges_46 rfl ?_ ?_
      · refine q_iincA hC (loc' := [(2, .int (x2 + 1)), (0, .ref x0), (1, .int x1)]) 2 1 dX0_numberEdges_55 rfl rfl (Nat.le_of_ble_eq_true rfl) rfl ?_
        refine q_goto hC 22 dX0_numberEdges_58 rfl ?_
        exact c_sub [1, 2, 0] rfl (hJ 2 [.ref x0, .int x1, .int (x2 + 1)])
      · refine q_aload_n hC 0 dX0_numberEdges_49 rfl rfl ?_
        refine q_iload_n hC 1 dX0_numberEdges_50 rfl rfl ?_
        refine q_iload_n hC 2 dX0_numberEdges_51 rfl rfl ?_
        refine q_cVV hC hnt (stk := []) (as := [.int x1, .int x2]) sX0_addEdge (ci := 0) (by decide) rfl nX0_addEdge rfl w_400 w_402 w_403 w_149 w_401 (Nat.le_of_ble_eq_true rfl) dX0_numberEdges_52 rfl ?_
        refine q_iincA hC (loc' := [(2, .int (x2 + 1)), (0, .ref x0), (1, .int x1)]) 2 1 dX0_numberEdges_55 rfl rfl (Nat.le_of_ble_eq_true rfl) rfl ?_
        refine q_goto hC 22 dX0_numberEdges_58 rfl ?_
        exact c_sub [1, 2, 0] rfl (hJ 2 [.ref x0, .int x1, .int (x2 + 1)])
  · exact c_no
theorem sX0_numberEdges : Snd yX0_numberEdges (.code yX0_numberEdges cX0_numberEdges 3 none) rmX0_numberEdges SX0_numberEdges := by
  refine Snd.of lX0_numberEdges (by decide +kernel) (fun _ => rfl) ?_
  intro Γ hC hnt hnm J hJ L a
  match L with
  | 0 => exact pX0_numberEdges_0 hC hnt J hJ a
  | 1 => exact pX0_numberEdges_1 hC hnt J hJ a
  | 2 => exact pX0_numberEdges_2 hC hnt J hJ a
  | L + 3 => exact c_no
/-! SpiritWall$Edges.between(II)I -/
theorem dX0_between_0 : decode cX0_between 0 = .ok (.iload_n 1, 1) := by decide +kernel
theorem dX0_between_1 : decode cX0_between 1 = .ok (.iload_n 2, 1) := by decide +kernel
theorem dX0_between_2 : decode cX0_between 2 = .ok (.if_icmp .ne 7, 3) := by decide +kernel
theorem dX0_between_5 : decode cX0_between 5 = .ok (.iconst (-1), 1) := by decide +kernel
theorem dX0_between_6 : decode cX0_between 6 = .ok (.goto 15, 3) := by decide +kernel
theorem dX0_between_9 : decode cX0_between 9 = .ok (.aload_n 0, 1) := by decide +kernel
theorem dX0_between_10 : decode cX0_between 10 = .ok (.getfield 28, 3) := by decide +kernel
theorem dX0_between_13 : decode cX0_between 13 = .ok (.iload_n 1, 1) := by decide +kernel
theorem dX0_between_14 : decode cX0_between 14 = .ok (.iload_n 2, 1) := by decide +kernel
theorem dX0_between_15 : decode cX0_between 15 = .ok (.invokestatic 145, 3) := by decide +kernel
theorem dX0_between_18 : decode cX0_between 18 = .ok (.invokestatic 102, 3) := by decide +kernel
theorem dX0_between_21 : decode cX0_between 21 = .ok (.ireturn, 1) := by decide +kernel
def rmX0_between : Room := rmk 7 0 0 171
theorem nX0_between : nameOk yX0_between 2 = true := by decide +kernel
def bX0_between_0 (J : JT) : List Value → Sem
  | [.ref x0, .int x1, .int x2] =>
    br (x1 = x2)
    (rI (-1))
    (gR 0 7 x0 fun r1 =>
    cI SX10_pairOf [.int x1, .int x2] fun v2 =>
    cI SX10_cell [.ref r1, .int v2] fun v3 =>
    rI v3)
  | _ => no
def bX0_between (J : JT) : JT := fun L a => match L with
  | 0 => bX0_between_0 J a
  | _ => no
def SX0_between : ST := mk 3 bX0_between
def lX0_between (L : Nat) (a : List Value) : Nat × Nat × Nat × List (Nat × Value) × List Value := match L with
  | 0 => (0, 0, 0, lv_args 0 a, [])
  | _ => (0, 0, 0, [], [])
theorem pX0_between_0 {Γ : CT} (hC : Ctx Γ "SpiritWall$Edges" cX0_between 3 (some .int) rmX0_between) (hnt : NT Γ) (J : JT) (hJ : ∀ L a, Cor Γ 3 (lX0_between L a).1 (lX0_between L a).2.1 (lX0_between L a).2.2.1 (lX0_between L a).2.2.2.1 (lX0_between L a).2.2.2.2 (J L a)) (a : List Value) : Cor Γ 3 0 0 0 (lv_args 0 a) [] (bX0_between_0 J a) := by
  unfold bX0_between_0
  split
  · rename_i x0 x1 x2
    refine c_sub [0, 1, 2] rfl (loc' := [(0, .ref x0), (1, .int x1), (2, .int x2)]) ?_
    refine q_iload_n hC 1 dX0_between_0 rfl rfl ?_
    refine q_iload_n hC 2 dX0_between_1 rfl rfl ?_
    refine q_ic_ne hC 9 dX0_between_2 rfl ?_ ?_
    · refine q_aload_n hC 0 dX0_between_9 rfl rfl ?_
      refine q_getR hC (by decide) (by decide) rfl w_89 dX0_between_10 (fun r1 => ?_)
      refine q_iload_n hC 1 dX0_between_13 rfl rfl ?_
      refine q_iload_n hC 2 dX0_between_14 rfl rfl ?_
      refine q_cNI hC hnt (stk := [.ref r1]) (as := [.int x1, .int x2]) sX10_pairOf nX10_pairOf rfl w_396 w_398 w_27 w_397 (Nat.le_of_ble_eq_true rfl) dX0_between_15 rfl (fun v2 => ?_)
      refine q_cNI hC hnt (stk := []) (as := [.ref r1, .int v2]) sX10_cell nX10_cell rfl w_352 w_202 w_27 w_201 (Nat.le_of_ble_eq_true rfl) dX0_between_18 rfl (fun v3 => ?_)
      exact q_iret hC dX0_between_21 (Nat.le_of_ble_eq_true rfl) (Nat.le_of_ble_eq_true rfl)
    · refine q_iconst hC dX0_between_5 rfl ?_
      refine q_goto hC 21 dX0_between_6 rfl ?_
      exact q_iret hC dX0_between_21 (Nat.le_of_ble_eq_true rfl) (Nat.le_of_ble_eq_true rfl)
  · exact c_no
theorem sX0_between : Snd yX0_between (.code yX0_between cX0_between 3 (some .int)) rmX0_between SX0_between := by
  refine Snd.of lX0_between (by decide +kernel) (fun _ => rfl) ?_
  intro Γ hC hnt hnm J hJ L a
  match L with
  | 0 => exact pX0_between_0 hC hnt J hJ a
  | L + 1 => exact c_no
/-! SpiritWall$Edges.edgeOf(I)I -/
theorem dX0_edgeOf_0 : decode cX0_edgeOf 0 = .ok (.aload_n 0, 1) := by decide +kernel
theorem dX0_edgeOf_1 : decode cX0_edgeOf 1 = .ok (.aload_n 0, 1) := by decide +kernel
theorem dX0_edgeOf_2 : decode cX0_edgeOf 2 = .ok (.getfield 62, 3) := by decide +kernel
theorem dX0_edgeOf_5 : decode cX0_edgeOf 5 = .ok (.getfield 99, 3) := by decide +kernel
theorem dX0_edgeOf_8 : decode cX0_edgeOf 8 = .ok (.iload_n 1, 1) := by decide +kernel
theorem dX0_edgeOf_9 : decode cX0_edgeOf 9 = .ok (.invokestatic 102, 3) := by decide +kernel
theorem dX0_edgeOf_12 : decode cX0_edgeOf 12 = .ok (.aload_n 0, 1) := by decide +kernel
theorem dX0_edgeOf_13 : decode cX0_edgeOf 13 = .ok (.getfield 62, 3) := by decide +kernel
theorem dX0_edgeOf_16 : decode cX0_edgeOf 16 = .ok (.getfield 106, 3) := by decide +kernel
theorem dX0_edgeOf_19 : decode cX0_edgeOf 19 = .ok (.iload_n 1, 1) := by decide +kernel
theorem dX0_edgeOf_20 : decode cX0_edgeOf 20 = .ok (.invokestatic 102, 3) := by decide +kernel
theorem dX0_edgeOf_23 : decode cX0_edgeOf 23 = .ok (.invokevirtual 186, 3) := by decide +kernel
theorem dX0_edgeOf_26 : decode cX0_edgeOf 26 = .ok (.ireturn, 1) := by decide +kernel
def rmX0_edgeOf : Room := rmk 8 0 0 193
theorem nX0_edgeOf : nameOk yX0_edgeOf 1 = true := by decide +kernel
def bX0_edgeOf_0 (J : JT) : List Value → Sem
  | [.ref x0, .int x1] =>
    gR 0 1 x0 fun r1 =>
    gR 6 7 r1 fun r2 =>
    cI SX10_cell [.ref r2, .int x1] fun v3 =>
    gR 0 1 x0 fun r4 =>
    gR 6 8 r4 fun r5 =>
    cI SX10_cell [.ref r5, .int x1] fun v6 =>
    ob 0 x0 (cI SX0_between [.ref x0, .int v3, .int v6] fun v7 =>
    rI v7)
  | _ => no
def bX0_edgeOf (J : JT) : JT := fun L a => match L with
  | 0 => bX0_edgeOf_0 J a
  | _ => no
def SX0_edgeOf : ST := mk 2 bX0_edgeOf
def lX0_edgeOf (L : Nat) (a : List Value) : Nat × Nat × Nat × List (Nat × Value) × List Value := match L with
  | 0 => (0, 0, 0, lv_args 0 a, [])
  | _ => (0, 0, 0, [], [])
theorem pX0_edgeOf_0 {Γ : CT} (hC : Ctx Γ "SpiritWall$Edges" cX0_edgeOf 2 (some .int) rmX0_edgeOf) (hnt : NT Γ) (J : JT) (hJ : ∀ L a, Cor Γ 2 (lX0_edgeOf L a).1 (lX0_edgeOf L a).2.1 (lX0_edgeOf L a).2.2.1 (lX0_edgeOf L a).2.2.2.1 (lX0_edgeOf L a).2.2.2.2 (J L a)) (a : List Value) : Cor Γ 2 0 0 0 (lv_args 0 a) [] (bX0_edgeOf_0 J a) := by
  unfold bX0_edgeOf_0
  split
  · rename_i x0 x1
    refine c_sub [0, 1] rfl (loc' := [(0, .ref x0), (1, .int x1)]) ?_
    refine q_aload_n hC 0 dX0_edgeOf_0 rfl rfl ?_
    refine q_aload_n hC 0 dX0_edgeOf_1 rfl rfl ?_
    refine q_getR hC (by decide) (by decide) rfl w_100 dX0_edgeOf_2 (fun r1 => ?_)
    refine q_getR hC (by decide) (by decide) rfl w_367 dX0_edgeOf_5 (fun r2 => ?_)
    refine q_iload_n hC 1 dX0_edgeOf_8 rfl rfl ?_
    refine q_cNI hC hnt (stk := [.ref x0]) (as := [.ref r2, .int x1]) sX10_cell nX10_cell rfl w_352 w_202 w_27 w_201 (Nat.le_of_ble_eq_true rfl) dX0_edgeOf_9 rfl (fun v3 => ?_)
    refine q_aload_n hC 0 dX0_edgeOf_12 rfl rfl ?_
    refine q_getR hC (by decide) (by decide) rfl w_100 dX0_edgeOf_13 (fun r4 => ?_)
    refine q_getR hC (by decide) (by decide) rfl w_368 dX0_edgeOf_16 (fun r5 => ?_)
    refine q_iload_n hC 1 dX0_edgeOf_19 rfl rfl ?_
    refine q_cNI hC hnt (stk := [.int v3, .ref x0]) (as := [.ref r5, .int x1]) sX10_cell nX10_cell rfl w_352 w_202 w_27 w_201 (Nat.le_of_ble_eq_true rfl) dX0_edgeOf_20 rfl (fun v6 => ?_)
    refine q_cVI hC hnt (stk := []) (as := [.int v3, .int v6]) sX0_between (ci := 0) (by decide) rfl nX0_between rfl w_404 w_406 w_407 w_149 w_405 (Nat.le_of_ble_eq_true rfl) dX0_edgeOf_23 rfl (fun v7 => ?_)
    exact q_iret hC dX0_edgeOf_26 (Nat.le_of_ble_eq_true rfl) (Nat.le_of_ble_eq_true rfl)
  · exact c_no
theorem sX0_edgeOf : Snd yX0_edgeOf (.code yX0_edgeOf cX0_edgeOf 2 (some .int)) rmX0_edgeOf SX0_edgeOf := by
  refine Snd.of lX0_edgeOf (by decide +kernel) (fun _ => rfl) ?_
  intro Γ hC hnt hnm J hJ L a
  match L with
  | 0 => exact pX0_edgeOf_0 hC hnt J hJ a
  | L + 1 => exact c_no
/-! SpiritWall.addTo([III)V -/
theorem dX10_addTo_0 : decode cX10_addTo 0 = .ok (.aload_n 0, 1) := by decide +kernel
theorem dX10_addTo_1 : decode cX10_addTo 1 = .ok (.iload_n 1, 1) := by decide +kernel
theorem dX10_addTo_2 : decode cX10_addTo 2 = .ok (.aload_n 0, 1) := by decide +kernel
theorem dX10_addTo_3 : decode cX10_addTo 3 = .ok (.iload_n 1, 1) := by decide +kernel
theorem dX10_addTo_4 : decode cX10_addTo 4 = .ok (.invokestatic 190, 3) := by decide +kernel
theorem dX10_addTo_7 : decode cX10_addTo 7 = .ok (.iload_n 2, 1) := by decide +kernel
theorem dX10_addTo_8 : decode cX10_addTo 8 = .ok (.iadd, 1) := by decide +kernel
theorem dX10_addTo_9 : decode cX10_addTo 9 = .ok (.invokestatic 373, 3) := by decide +kernel
theorem dX10_addTo_12 : decode cX10_addTo 12 = .ok (.return_, 1) := by decide +kernel
def rmX10_addTo : Room := rmk 7 0 0 172
theorem nX10_addTo : nameOk yX10_addTo 3 = true := by decide +kernel
def bX10_addTo_0 (J : JT) : List Value → Sem
  | [.ref x0, .int x1, .int x2] =>
    cI SX10_cell [.ref x0, .int x1] fun v1 =>
    cV SX10_put [.ref x0, .int x1, .int (v1 + x2)] <|
    rV
  | _ => no
def bX10_addTo (J : JT) : JT := fun L a => match L with
  | 0 => bX10_addTo_0 J a
  | _ => no
def SX10_addTo : ST := mk 3 bX10_addTo
def lX10_addTo (L : Nat) (a : List Value) : Nat × Nat × Nat × List (Nat × Value) × List Value := match L with
  | 0 => (0, 0, 0, lv_args 0 a, [])
  | _ => (0, 0, 0, [], [])
theorem pX10_addTo_0 {Γ : CT} (hC : Ctx Γ "SpiritWall" cX10_addTo 3 none rmX10_addTo) (hnt : NT Γ) (J : JT) (hJ : ∀ L a, Cor Γ 3 (lX10_addTo L a).1 (lX10_addTo L a).2.1 (lX10_addTo L a).2.2.1 (lX10_addTo L a).2.2.2.1 (lX10_addTo L a).2.2.2.2 (J L a)) (a : List Value) : Cor Γ 3 0 0 0 (lv_args 0 a) [] (bX10_addTo_0 J a) := by
  unfold bX10_addTo_0
  split
  · rename_i x0 x1 x2
    refine c_sub [0, 1, 2] rfl (loc' := [(0, .ref x0), (1, .int x1), (2, .int x2)]) ?_
    refine q_aload_n hC 0 dX10_addTo_0 rfl rfl ?_
    refine q_iload_n hC 1 dX10_addTo_1 rfl rfl ?_
    refine q_aload_n hC 0 dX10_addTo_2 rfl rfl ?_
    refine q_iload_n hC 1 dX10_addTo_3 rfl rfl ?_
    refine q_cSI hC hnt (stk := [.int x1, .ref x0]) (as := [.ref x0, .int x1]) sX10_cell nX10_cell rfl w_408 w_202 w_27 w_201 (Nat.le_of_ble_eq_true rfl) dX10_addTo_4 rfl (fun v1 => ?_)
    refine q_iload_n hC 2 dX10_addTo_7 rfl rfl ?_
    refine q_iadd hC dX10_addTo_8 ?_
    refine q_cSV hC hnt (stk := []) (as := [.ref x0, .int x1, .int (v1 + x2)]) sX10_put nX10_put rfl w_409 w_187 w_27 w_186 (Nat.le_of_ble_eq_true rfl) dX10_addTo_9 rfl ?_
    exact q_vret hC dX10_addTo_12 (Nat.le_of_ble_eq_true rfl) (Nat.le_of_ble_eq_true rfl)
  · exact c_no
theorem sX10_addTo : Snd yX10_addTo (.code yX10_addTo cX10_addTo 3 none) rmX10_addTo SX10_addTo := by
  refine Snd.of lX10_addTo (by decide +kernel) (fun _ => rfl) ?_
  intro Γ hC hnt hnm J hJ L a
  match L with
  | 0 => exact pX10_addTo_0 hC hnt J hJ a
  | L + 1 => exact c_no
/-! SpiritWall$Edges.fromLesser(II)I -/
theorem dX0_fromLesser_0 : decode cX0_fromLesser 0 = .ok (.aload_n 0, 1) := by decide +kernel
theorem dX0_fromLesser_1 : decode cX0_fromLesser 1 = .ok (.getfield 62, 3) := by decide +kernel
theorem dX0_fromLesser_4 : decode cX0_fromLesser 4 = .ok (.getfield 99, 3) := by decide +kernel
theorem dX0_fromLesser_7 : decode cX0_fromLesser 7 = .ok (.iload_n 1, 1) := by decide +kernel
theorem dX0_fromLesser_8 : decode cX0_fromLesser 8 = .ok (.invokestatic 102, 3) := by decide +kernel
theorem dX0_fromLesser_11 : decode cX0_fromLesser 11 = .ok (.aload_n 0, 1) := by decide +kernel
theorem dX0_fromLesser_12 : decode cX0_fromLesser 12 = .ok (.getfield 62, 3) := by decide +kernel
theorem dX0_fromLesser_15 : decode cX0_fromLesser 15 = .ok (.getfield 106, 3) := by decide +kernel
theorem dX0_fromLesser_18 : decode cX0_fromLesser 18 = .ok (.iload_n 1, 1) := by decide +kernel
theorem dX0_fromLesser_19 : decode cX0_fromLesser 19 = .ok (.invokestatic 102, 3) := by decide +kernel
theorem dX0_fromLesser_22 : decode cX0_fromLesser 22 = .ok (.if_icmp .ge 7, 3) := by decide +kernel
theorem dX0_fromLesser_25 : decode cX0_fromLesser 25 = .ok (.iload_n 2, 1) := by decide +kernel
theorem dX0_fromLesser_26 : decode cX0_fromLesser 26 = .ok (.goto 5, 3) := by decide +kernel
theorem dX0_fromLesser_29 : decode cX0_fromLesser 29 = .ok (.iload_n 2, 1) := by decide +kernel
theorem dX0_fromLesser_30 : decode cX0_fromLesser 30 = .ok (.ineg, 1) := by decide +kernel
theorem dX0_fromLesser_31 : decode cX0_fromLesser 31 = .ok (.ireturn, 1) := by decide +kernel
def rmX0_fromLesser : Room := rmk 7 0 0 171
theorem nX0_fromLesser : nameOk yX0_fromLesser 2 = true := by decide +kernel
def bX0_fromLesser_0 (J : JT) : List Value → Sem
  | [.ref x0, .int x1, .int x2] =>
    gR 0 1 x0 fun r1 =>
    gR 6 7 r1 fun r2 =>
    cI SX10_cell [.ref r2, .int x1] fun v3 =>
    gR 0 1 x0 fun r4 =>
    gR 6 8 r4 fun r5 =>
    cI SX10_cell [.ref r5, .int x1] fun v6 =>
    br (v6 ≤ v3)
    (rI (-x2))
    (rI x2)
  | _ => no
def bX0_fromLesser (J : JT) : JT := fun L a => match L with
  | 0 => bX0_fromLesser_0 J a
  | _ => no
def SX0_fromLesser : ST := mk 3 bX0_fromLesser
def lX0_fromLesser (L : Nat) (a : List Value) : Nat × Nat × Nat × List (Nat × Value) × List Value := match L with
  | 0 => (0, 0, 0, lv_args 0 a, [])
  | _ => (0, 0, 0, [], [])
theorem pX0_fromLesser_0 {Γ : CT} (hC : Ctx Γ "SpiritWall$Edges" cX0_fromLesser 3 (some .int) rmX0_fromLesser) (hnt : NT Γ) (J : JT) (hJ : ∀ L a, Cor Γ 3 (lX0_fromLesser L a).1 (lX0_fromLesser L a).2.1 (lX0_fromLesser L a).2.2.1 (lX0_fromLesser L a).2.2.2.1 (lX0_fromLesser L a).2.2.2.2 (J L a)) (a : List Value) : Cor Γ 3 0 0 0 (lv_args 0 a) [] (bX0_fromLesser_0 J a) := by
  unfold bX0_fromLesser_0
  split
  · rename_i x0 x1 x2
    refine c_sub [0, 1, 2] rfl (loc' := [(0, .ref x0), (1, .int x1), (2, .int x2)]) ?_
    refine q_aload_n hC 0 dX0_fromLesser_0 rfl rfl ?_
    refine q_getR hC (by decide) (by decide) rfl w_100 dX0_fromLesser_1 (fun r1 => ?_)
    refine q_getR hC (by decide) (by decide) rfl w_367 dX0_fromLesser_4 (fun r2 => ?_)
    refine q_iload_n hC 1 dX0_fromLesser_7 rfl rfl ?_
    refine q_cNI hC hnt (stk := []) (as := [.ref r2, .int x1]) sX10_cell nX10_cell rfl w_352 w_202 w_27 w_201 (Nat.le_of_ble_eq_true rfl) dX0_fromLesser_8 rfl (fun v3 => ?_)
    refine q_aload_n hC 0 dX0_fromLesser_11 rfl rfl ?_
    refine q_getR hC (by decide) (by decide) rfl w_100 dX0_fromLesser_12 (fun r4 => ?_)
    refine q_getR hC (by decide) (by decide) rfl w_368 dX0_fromLesser_15 (fun r5 => ?_)
    refine q_iload_n hC 1 dX0_fromLesser_18 rfl rfl ?_
    refine q_cNI hC hnt (stk := [.int v3]) (as := [.ref r5, .int x1]) sX10_cell nX10_cell rfl w_352 w_202 w_27 w_201 (Nat.le_of_ble_eq_true rfl) dX0_fromLesser_19 rfl (fun v6 => ?_)
    refine q_ic_ge hC 29 dX0_fromLesser_22 rfl ?_ ?_
    · refine q_iload_n hC 2 dX0_fromLesser_29 rfl rfl ?_
      refine q_ineg hC dX0_fromLesser_30 ?_
      exact q_iret hC dX0_fromLesser_31 (Nat.le_of_ble_eq_true rfl) (Nat.le_of_ble_eq_true rfl)
    · refine q_iload_n hC 2 dX0_fromLesser_25 rfl rfl ?_
      refine q_goto hC 31 dX0_fromLesser_26 rfl ?_
      exact q_iret hC dX0_fromLesser_31 (Nat.le_of_ble_eq_true rfl) (Nat.le_of_ble_eq_true rfl)
  · exact c_no
theorem sX0_fromLesser : Snd yX0_fromLesser (.code yX0_fromLesser cX0_fromLesser 3 (some .int)) rmX0_fromLesser SX0_fromLesser := by
  refine Snd.of lX0_fromLesser (by decide +kernel) (fun _ => rfl) ?_
  intro Γ hC hnt hnm J hJ L a
  match L with
  | 0 => exact pX0_fromLesser_0 hC hnt J hJ a
  | L + 1 => exact c_no
/-! SpiritWall$Edges.isWith(I)Z -/
theorem dX0_isWith_0 : decode cX0_isWith 0 = .ok (.aload_n 0, 1) := by decide +kernel
theorem dX0_isWith_1 : decode cX0_isWith 1 = .ok (.getfield 62, 3) := by decide +kernel
theorem dX0_isWith_4 : decode cX0_isWith 4 = .ok (.getfield 128, 3) := by decide +kernel
theorem dX0_isWith_7 : decode cX0_isWith 7 = .ok (.iload_n 1, 1) := by decide +kernel
theorem dX0_isWith_8 : decode cX0_isWith 8 = .ok (.invokestatic 102, 3) := by decide +kernel
theorem dX0_isWith_11 : decode cX0_isWith 11 = .ok (.ifCond .ne 7, 3) := by decide +kernel
theorem dX0_isWith_14 : decode cX0_isWith 14 = .ok (.iconst 1, 1) := by decide +kernel
theorem dX0_isWith_15 : decode cX0_isWith 15 = .ok (.goto 4, 3) := by decide +kernel
theorem dX0_isWith_18 : decode cX0_isWith 18 = .ok (.iconst 0, 1) := by decide +kernel
theorem dX0_isWith_19 : decode cX0_isWith 19 = .ok (.aload_n 0, 1) := by decide +kernel
theorem dX0_isWith_20 : decode cX0_isWith 20 = .ok (.getfield 62, 3) := by decide +kernel
theorem dX0_isWith_23 : decode cX0_isWith 23 = .ok (.getfield 99, 3) := by decide +kernel
theorem dX0_isWith_26 : decode cX0_isWith 26 = .ok (.iload_n 1, 1) := by decide +kernel
theorem dX0_isWith_27 : decode cX0_isWith 27 = .ok (.invokestatic 102, 3) := by decide +kernel
theorem dX0_isWith_30 : decode cX0_isWith 30 = .ok (.aload_n 0, 1) := by decide +kernel
theorem dX0_isWith_31 : decode cX0_isWith 31 = .ok (.getfield 62, 3) := by decide +kernel
theorem dX0_isWith_34 : decode cX0_isWith 34 = .ok (.getfield 106, 3) := by decide +kernel
theorem dX0_isWith_37 : decode cX0_isWith 37 = .ok (.iload_n 1, 1) := by decide +kernel
theorem dX0_isWith_38 : decode cX0_isWith 38 = .ok (.invokestatic 102, 3) := by decide +kernel
theorem dX0_isWith_41 : decode cX0_isWith 41 = .ok (.if_icmp .ge 7, 3) := by decide +kernel
theorem dX0_isWith_44 : decode cX0_isWith 44 = .ok (.iconst 1, 1) := by decide +kernel
theorem dX0_isWith_45 : decode cX0_isWith 45 = .ok (.goto 4, 3) := by decide +kernel
theorem dX0_isWith_48 : decode cX0_isWith 48 = .ok (.iconst 0, 1) := by decide +kernel
theorem dX0_isWith_49 : decode cX0_isWith 49 = .ok (.if_icmp .ne 7, 3) := by decide +kernel
theorem dX0_isWith_52 : decode cX0_isWith 52 = .ok (.iconst 1, 1) := by decide +kernel
theorem dX0_isWith_53 : decode cX0_isWith 53 = .ok (.goto 4, 3) := by decide +kernel
theorem dX0_isWith_56 : decode cX0_isWith 56 = .ok (.iconst 0, 1) := by decide +kernel
theorem dX0_isWith_57 : decode cX0_isWith 57 = .ok (.ireturn, 1) := by decide +kernel
def rmX0_isWith : Room := rmk 7 0 0 171
theorem nX0_isWith : nameOk yX0_isWith 1 = true := by decide +kernel
def bX0_isWith_0 (J : JT) : List Value → Sem
  | [.ref x0, .int x1] =>
    gR 0 1 x0 fun r1 =>
    gR 6 9 r1 fun r2 =>
    cI SX10_cell [.ref r2, .int x1] fun v3 =>
    br (v3 = 0)
    (gR 0 1 x0 fun r10 =>
    gR 6 7 r10 fun r11 =>
    cI SX10_cell [.ref r11, .int x1] fun v12 =>
    gR 0 1 x0 fun r13 =>
    gR 6 8 r13 fun r14 =>
    cI SX10_cell [.ref r14, .int x1] fun v15 =>
    br (v15 ≤ v12)
    (br ((1 : Int32) = (0 : Int32))
    (rZ 1)
    (rZ 0))
    (br ((1 : Int32) = (1 : Int32))
    (rZ 1)
    (rZ 0)))
    (gR 0 1 x0 fun r4 =>
    gR 6 7 r4 fun r5 =>
    cI SX10_cell [.ref r5, .int x1] fun v6 =>
    gR 0 1 x0 fun r7 =>
    gR 6 8 r7 fun r8 =>
    cI SX10_cell [.ref r8, .int x1] fun v9 =>
    br (v9 ≤ v6)
    (br ((0 : Int32) = (0 : Int32))
    (rZ 1)
    (rZ 0))
    (br ((0 : Int32) = (1 : Int32))
    (rZ 1)
    (rZ 0)))
  | _ => no
def bX0_isWith (J : JT) : JT := fun L a => match L with
  | 0 => bX0_isWith_0 J a
  | _ => no
def SX0_isWith : ST := mk 2 bX0_isWith
def lX0_isWith (L : Nat) (a : List Value) : Nat × Nat × Nat × List (Nat × Value) × List Value := match L with
  | 0 => (0, 0, 0, lv_args 0 a, [])
  | _ => (0, 0, 0, [], [])
theorem pX0_isWith_0 {Γ : CT} (hC : Ctx Γ "SpiritWall$Edges" cX0_isWith 2 (some .boolean) rmX0_isWith) (hnt : NT Γ) (J : JT) (hJ : ∀ L a, Cor Γ 2 (lX0_isWith L a).1 (lX0_isWith L a).2.1 (lX0_isWith L a).2.2.1 (lX0_isWith L a).2.2.2.1 (lX0_isWith L a).2.2.2.2 (J L a)) (a : List Value) : Cor Γ 2 0 0 0 (lv_args 0 a) [] (bX0_isWith_0 J a) := by
  unfold bX0_isWith_0
  split
  · rename_i x0 x1
    refine c_sub [0, 1] rfl (loc' := [(0, .ref x0), (1, .int x1)]) ?_
    refine q_aload_n hC 0 dX0_isWith_0 rfl rfl ?_
    refine q_getR hC (by decide) (by decide) rfl w_100 dX0_isWith_1 (fun r1 => ?_)
    refine q_getR hC (by decide) (by decide) rfl w_383 dX0_isWith_4 (fun r2 => ?_)
    refine q_iload_n hC 1 dX0_isWith_7 rfl rfl ?_
    refine q_cNI hC hnt (stk := []) (as := [.ref r2, .int x1]) sX10_cell nX10_cell rfl w_352 w_202 w_27 w_201 (Nat.le_of_ble_eq_true rfl) dX0_isWith_8 rfl (fun v3 => ?_)
    refine q_if_ne hC 18 dX0_isWith_11 rfl ?_ ?_
    · refine q_iconst hC dX0_isWith_18 rfl ?_
      refine q_aload_n hC 0 dX0_isWith_19 rfl rfl ?_
      refine q_getR hC (by decide) (by decide) rfl w_100 dX0_isWith_20 (fun r4 => ?_)
      refine q_getR hC (by decide) (by decide) rfl w_367 dX0_isWith_23 (fun r5 => ?_)
      refine q_iload_n hC 1 dX0_isWith_26 rfl rfl ?_
      refine q_cNI hC hnt (stk := [.int 0]) (as := [.ref r5, .int x1]) sX10_cell nX10_cell rfl w_352 w_202 w_27 w_201 (Nat.le_of_ble_eq_true rfl) dX0_isWith_27 rfl (fun v6 => ?_)
      refine q_aload_n hC 0 dX0_isWith_30 rfl rfl ?_
      refine q_getR hC (by decide) (by decide) rfl w_100 dX0_isWith_31 (fun r7 => ?_)
      refine q_getR hC (by decide) (by decide) rfl w_368 dX0_isWith_34 (fun r8 => ?_)
      refine q_iload_n hC 1 dX0_isWith_37 rfl rfl ?_
      refine q_cNI hC hnt (stk := [.int v6, .int 0]) (as := [.ref r8, .int x1]) sX10_cell nX10_cell rfl w_352 w_202 w_27 w_201 (Nat.le_of_ble_eq_true rfl) dX0_isWith_38 rfl (fun v9 => ?_)
      refine q_ic_ge hC 48 dX0_isWith_41 rfl ?_ ?_
      · refine q_iconst hC dX0_isWith_48 rfl ?_
        refine q_ic_ne hC 56 dX0_isWith_49 rfl ?_ ?_
        · refine q_iconst hC dX0_isWith_56 rfl ?_
          exact q_zret hC dX0_isWith_57 (Nat.le_of_ble_eq_true rfl) (Nat.le_of_ble_eq_true rfl)
        · refine q_iconst hC dX0_isWith_52 rfl ?_
          refine q_goto hC 57 dX0_isWith_53 rfl ?_
          exact q_zret hC dX0_isWith_57 (Nat.le_of_ble_eq_true rfl) (Nat.le_of_ble_eq_true rfl)
      · refine q_iconst hC dX0_isWith_44 rfl ?_
        refine q_goto hC 49 dX0_isWith_45 rfl ?_
        refine q_ic_ne hC 56 dX0_isWith_49 rfl ?_ ?_
        · refine q_iconst hC dX0_isWith_56 rfl ?_
          exact q_zret hC dX0_isWith_57 (Nat.le_of_ble_eq_true rfl) (Nat.le_of_ble_eq_true rfl)
        · refine q_iconst hC dX0_isWith_52 rfl ?_
          refine q_goto hC 57 dX0_isWith_53 rfl ?_
          exact q_zret hC dX0_isWith_57 (Nat.le_of_ble_eq_true rfl) (Nat.le_of_ble_eq_true rfl)
    · refine q_iconst hC dX0_isWith_14 rfl ?_
      refine q_goto hC 19 dX0_isWith_15 rfl ?_
      refine q_aload_n hC 0 dX0_isWith_19 rfl rfl ?_
      refine q_getR hC (by decide) (by decide) rfl w_100 dX0_isWith_20 (fun r10 => ?_)
      refine q_getR hC (by decide) (by decide) rfl w_367 dX0_isWith_23 (fun r11 => ?_)
      refine q_iload_n hC 1 dX0_isWith_26 rfl rfl ?_
      refine q_cNI hC hnt (stk := [.int 1]) (as := [.ref r11, .int x1]) sX10_cell nX10_cell rfl w_352 w_202 w_27 w_201 (Nat.le_of_ble_eq_true rfl) dX0_isWith_27 rfl (fun v12 => ?_)
      refine q_aload_n hC 0 dX0_isWith_30 rfl rfl ?_
      refine q_getR hC (by decide) (by decide) rfl w_100 dX0_isWith_31 (fun r13 => ?_)
      refine q_getR hC (by decide) (by decide) rfl w_368 dX0_isWith_34 (fun r14 => ?_)
      refine q_iload_n hC 1 dX0_isWith_37 rfl rfl ?_
      refine q_cNI hC hnt (stk := [.int v12, .int 1]) (as := [.ref r14, .int x1]) sX10_cell nX10_cell rfl w_352 w_202 w_27 w_201 (Nat.le_of_ble_eq_true rfl) dX0_isWith_38 rfl (fun v15 => ?_)
      refine q_ic_ge hC 48 dX0_isWith_41 rfl ?_ ?_
      · refine q_iconst hC dX0_isWith_48 rfl ?_
        refine q_ic_ne hC 56 dX0_isWith_49 rfl ?_ ?_
        · refine q_iconst hC dX0_isWith_56 rfl ?_
          exact q_zret hC dX0_isWith_57 (Nat.le_of_ble_eq_true rfl) (Nat.le_of_ble_eq_true rfl)
        · refine q_iconst hC dX0_isWith_52 rfl ?_
          refine q_goto hC 57 dX0_isWith_53 rfl ?_
          exact q_zret hC dX0_isWith_57 (Nat.le_of_ble_eq_true rfl) (Nat.le_of_ble_eq_true rfl)
      · refine q_iconst hC dX0_isWith_44 rfl ?_
        refine q_goto hC 49 dX0_isWith_45 rfl ?_
        refine q_ic_ne hC 56 dX0_isWith_49 rfl ?_ ?_
        · refine q_iconst hC dX0_isWith_56 rfl ?_
          exact q_zret hC dX0_isWith_57 (Nat.le_of_ble_eq_true rfl) (Nat.le_of_ble_eq_true rfl)
        · refine q_iconst hC dX0_isWith_52 rfl ?_
          refine q_goto hC 57 dX0_isWith_53 rfl ?_
          exact q_zret hC dX0_isWith_57 (Nat.le_of_ble_eq_true rfl) (Nat.le_of_ble_eq_true rfl)
  · exact c_no
theorem sX0_isWith : Snd yX0_isWith (.code yX0_isWith cX0_isWith 2 (some .boolean)) rmX0_isWith SX0_isWith := by
  refine Snd.of lX0_isWith (by decide +kernel) (fun _ => rfl) ?_
  intro Γ hC hnt hnm J hJ L a
  match L with
  | 0 => exact pX0_isWith_0 hC hnt J hJ a
  | L + 1 => exact c_no
/-! SpiritWall$Edges.sumReadings()V -/
theorem dX0_sumReadings_0 : decode cX0_sumReadings 0 = .ok (.iconst 0, 1) := by decide +kernel
theorem dX0_sumReadings_1 : decode cX0_sumReadings 1 = .ok (.istore_n 1, 1) := by decide +kernel
theorem dX0_sumReadings_2 : decode cX0_sumReadings 2 = .ok (.iload_n 1, 1) := by decide +kernel
theorem dX0_sumReadings_3 : decode cX0_sumReadings 3 = .ok (.aload_n 0, 1) := by decide +kernel
theorem dX0_sumReadings_4 : decode cX0_sumReadings 4 = .ok (.getfield 62, 3) := by decide +kernel
theorem dX0_sumReadings_7 : decode cX0_sumReadings 7 = .ok (.getfield 97, 3) := by decide +kernel
theorem dX0_sumReadings_10 : decode cX0_sumReadings 10 = .ok (.if_icmp .ge 90, 3) := by decide +kernel
theorem dX0_sumReadings_13 : decode cX0_sumReadings 13 = .ok (.aload_n 0, 1) := by decide +kernel
theorem dX0_sumReadings_14 : decode cX0_sumReadings 14 = .ok (.getfield 62, 3) := by decide +kernel
theorem dX0_sumReadings_17 : decode cX0_sumReadings 17 = .ok (.iload_n 1, 1) := by decide +kernel
theorem dX0_sumReadings_18 : decode cX0_sumReadings 18 = .ok (.invokevirtual 142, 3) := by decide +kernel
theorem dX0_sumReadings_21 : decode cX0_sumReadings 21 = .ok (.ifCond .ne 6, 3) := by decide +kernel
theorem dX0_sumReadings_24 : decode cX0_sumReadings 24 = .ok (.goto 70, 3) := by decide +kernel
theorem dX0_sumReadings_27 : decode cX0_sumReadings 27 = .ok (.aload_n 0, 1) := by decide +kernel
theorem dX0_sumReadings_28 : decode cX0_sumReadings 28 = .ok (.iload_n 1, 1) := by decide +kernel
theorem dX0_sumReadings_29 : decode cX0_sumReadings 29 = .ok (.invokevirtual 155, 3) := by decide +kernel
theorem dX0_sumReadings_32 : decode cX0_sumReadings 32 = .ok (.istore_n 2, 1) := by decide +kernel
theorem dX0_sumReadings_33 : decode cX0_sumReadings 33 = .ok (.aload_n 0, 1) := by decide +kernel
theorem dX0_sumReadings_34 : decode cX0_sumReadings 34 = .ok (.getfield 40, 3) := by decide +kernel
theorem dX0_sumReadings_37 : decode cX0_sumReadings 37 = .ok (.iload_n 2, 1) := by decide +kernel
theorem dX0_sumReadings_38 : decode cX0_sumReadings 38 = .ok (.iconst 1, 1) := by decide +kernel
theorem dX0_sumReadings_39 : decode cX0_sumReadings 39 = .ok (.invokestatic 158, 3) := by decide +kernel
theorem dX0_sumReadings_42 : decode cX0_sumReadings 42 = .ok (.aload_n 0, 1) := by decide +kernel
theorem dX0_sumReadings_43 : decode cX0_sumReadings 43 = .ok (.iload_n 1, 1) := by decide +kernel
theorem dX0_sumReadings_44 : decode cX0_sumReadings 44 = .ok (.aload_n 0, 1) := by decide +kernel
theorem dX0_sumReadings_45 : decode cX0_sumReadings 45 = .ok (.getfield 22, 3) := by decide +kernel
theorem dX0_sumReadings_48 : decode cX0_sumReadings 48 = .ok (.iload_n 1, 1) := by decide +kernel
theorem dX0_sumReadings_49 : decode cX0_sumReadings 49 = .ok (.invokestatic 102, 3) := by decide +kernel
theorem dX0_sumReadings_52 : decode cX0_sumReadings 52 = .ok (.invokevirtual 161, 3) := by decide +kernel
theorem dX0_sumReadings_55 : decode cX0_sumReadings 55 = .ok (.istore_n 3, 1) := by decide +kernel
theorem dX0_sumReadings_56 : decode cX0_sumReadings 56 = .ok (.aload_n 0, 1) := by decide +kernel
theorem dX0_sumReadings_57 : decode cX0_sumReadings 57 = .ok (.iload_n 1, 1) := by decide +kernel
theorem dX0_sumReadings_58 : decode cX0_sumReadings 58 = .ok (.invokevirtual 164, 3) := by decide +kernel
theorem dX0_sumReadings_61 : decode cX0_sumReadings 61 = .ok (.ifCond .eq 24, 3) := by decide +kernel
theorem dX0_sumReadings_64 : decode cX0_sumReadings 64 = .ok (.aload_n 0, 1) := by decide +kernel
theorem dX0_sumReadings_65 : decode cX0_sumReadings 65 = .ok (.getfield 46, 3) := by decide +kernel
theorem dX0_sumReadings_68 : decode cX0_sumReadings 68 = .ok (.iload_n 2, 1) := by decide +kernel
theorem dX0_sumReadings_69 : decode cX0_sumReadings 69 = .ok (.iconst 1, 1) := by decide +kernel
theorem dX0_sumReadings_70 : decode cX0_sumReadings 70 = .ok (.invokestatic 158, 3) := by decide +kernel
theorem dX0_sumReadings_73 : decode cX0_sumReadings 73 = .ok (.aload_n 0, 1) := by decide +kernel
theorem dX0_sumReadings_74 : decode cX0_sumReadings 74 = .ok (.getfield 49, 3) := by decide +kernel
theorem dX0_sumReadings_77 : decode cX0_sumReadings 77 = .ok (.iload_n 2, 1) := by decide +kernel
theorem dX0_sumReadings_78 : decode cX0_sumReadings 78 = .ok (.iload_n 3, 1) := by decide +kernel
theorem dX0_sumReadings_79 : decode cX0_sumReadings 79 = .ok (.invokestatic 158, 3) := by decide +kernel
theorem dX0_sumReadings_82 : decode cX0_sumReadings 82 = .ok (.goto 12, 3) := by decide +kernel
theorem dX0_sumReadings_85 : decode cX0_sumReadings 85 = .ok (.aload_n 0, 1) := by decide +kernel
theorem dX0_sumReadings_86 : decode cX0_sumReadings 86 = .ok (.getfield 52, 3) := by decide +kernel
theorem dX0_sumReadings_89 : decode cX0_sumReadings 89 = .ok (.iload_n 2, 1) := by decide +kernel
theorem dX0_sumReadings_90 : decode cX0_sumReadings 90 = .ok (.iload_n 3, 1) := by decide +kernel
theorem dX0_sumReadings_91 : decode cX0_sumReadings 91 = .ok (.invokestatic 158, 3) := by decide +kernel
theorem dX0_sumReadings_94 : decode cX0_sumReadings 94 = .ok (.iinc 1 1, 3) := by decide +kernel
theorem dX0_sumReadings_97 : decode cX0_sumReadings 97 = .ok (.goto (-95), 3) := by decide +kernel
theorem dX0_sumReadings_100 : decode cX0_sumReadings 100 = .ok (.return_, 1) := by decide +kernel
def rmX0_sumReadings : Room := rmk 9 0 0 214
theorem nX0_sumReadings : nameOk yX0_sumReadings 0 = true := by decide +kernel
def bX0_sumReadings_0 (J : JT) : List Value → Sem
  | [.ref x0] =>
    J 1 [.ref x0, .int 0]
  | _ => no
def bX0_sumReadings_1 (J : JT) : List Value → Sem
  | [.ref x0, .int x1] =>
    gR 0 1 x0 fun r1 =>
    gI 6 6 r1 fun v2 =>
    br (v2 ≤ x1)
    (rV)
    (gR 0 1 x0 fun r3 =>
    ob 6 r3 (cI SX6_counts [.ref r3, .int x1] fun v4 =>
    br (v4 = 0)
    (J 1 [.ref x0, .int (x1 + 1)])
    (ob 0 x0 (cI SX0_edgeOf [.ref x0, .int x1] fun v5 =>
    gR 0 11 x0 fun r6 =>
    cV SX10_addTo [.ref r6, .int v5, .int 1] <|
    gR 0 5 x0 fun r7 =>
    cI SX10_cell [.ref r7, .int x1] fun v8 =>
    ob 0 x0 (cI SX0_fromLesser [.ref x0, .int x1, .int v8] fun v9 =>
    ob 0 x0 (cI SX0_isWith [.ref x0, .int x1] fun v10 =>
    br (v10 = 0)
    (gR 0 15 x0 fun r11 =>
    cV SX10_addTo [.ref r11, .int v5, .int v9] <|
    J 1 [.ref x0, .int (x1 + 1)])
    (gR 0 13 x0 fun r12 =>
    cV SX10_addTo [.ref r12, .int v5, .int 1] <|
    gR 0 14 x0 fun r13 =>
    cV SX10_addTo [.ref r13, .int v5, .int v9] <|
    J 1 [.ref x0, .int (x1 + 1)])))))))
  | _ => no
def bX0_sumReadings (J : JT) : JT := fun L a => match L with
  | 0 => bX0_sumReadings_0 J a
  | 1 => bX0_sumReadings_1 J a
  | _ => no
def SX0_sumReadings : ST := mk 4 bX0_sumReadings
def lX0_sumReadings (L : Nat) (a : List Value) : Nat × Nat × Nat × List (Nat × Value) × List Value := match L with
  | 0 => (0, 0, 0, lv_args 0 a, [])
  | 1 => (0, 0, 2, List.zip [0, 1] a, [])
  | _ => (0, 0, 0, [], [])
theorem pX0_sumReadings_0 {Γ : CT} (hC : Ctx Γ "SpiritWall$Edges" cX0_sumReadings 4 none rmX0_sumReadings) (hnt : NT Γ) (J : JT) (hJ : ∀ L a, Cor Γ 4 (lX0_sumReadings L a).1 (lX0_sumReadings L a).2.1 (lX0_sumReadings L a).2.2.1 (lX0_sumReadings L a).2.2.2.1 (lX0_sumReadings L a).2.2.2.2 (J L a)) (a : List Value) : Cor Γ 4 0 0 0 (lv_args 0 a) [] (bX0_sumReadings_0 J a) := by
  unfold bX0_sumReadings_0
  split
  · rename_i x0
    refine c_sub [0] rfl (loc' := [(0, .ref x0)]) ?_
    refine q_iconst hC dX0_sumReadings_0 rfl ?_
    refine q_istore_nA hC (loc' := [(1, .int 0), (0, .ref x0)]) dX0_sumReadings_1 rfl (Nat.le_of_ble_eq_true rfl) rfl ?_
    exact c_sub [1, 0] rfl (hJ 1 [.ref x0, .int 0])
  · exact c_no
theorem pX0_sumReadings_1 {Γ : CT} (hC : Ctx Γ "SpiritWall$Edges" cX0_sumReadings 4 none rmX0_sumReadings) (hnt : NT Γ) (J : JT) (hJ : ∀ L a, Cor Γ 4 (lX0_sumReadings L a).1 (lX0_sumReadings L a).2.1 (lX0_sumReadings L a).2.2.1 (lX0_sumReadings L a).2.2.2.1 (lX0_sumReadings L a).2.2.2.2 (J L a)) (a : List Value) : Cor Γ 4 0 0 2 (List.zip [0, 1] a) [] (bX0_sumReadings_1 J a) := by
  unfold bX0_sumReadings_1
  split
  · rename_i x0 x1
    refine c_sub [0, 1] rfl (loc' := [(0, .ref x0), (1, .int x1)]) ?_
    refine q_iload_n hC 1 dX0_sumReadings_2 rfl rfl ?_
    refine q_aload_n hC 0 dX0_sumReadings_3 rfl rfl ?_
    refine q_getR hC (by decide) (by decide) rfl w_100 dX0_sumReadings_4 (fun r1 => ?_)
    refine q_getI hC (by decide) (by decide) rfl w_366 dX0_sumReadings_7 (fun v2 => ?_)
    refine q_ic_ge hC 100 dX0_sumReadings_10 rfl ?_ ?_
    · exact q_vret hC dX0_sumReadings_100 (Nat.le_of_ble_eq_true rfl) (Nat.le_of_ble_eq_true rfl)
    · refine q_aload_n hC 0 dX0_sumReadings_13 rfl rfl ?_
      refine q_getR hC (by decide) (by decide) rfl w_100 dX0_sumReadings_14 (fun r3 => ?_)
      refine q_iload_n hC 1 dX0_sumReadings_17 rfl rfl ?_
      refine q_cVI hC hnt (stk := []) (as := [.int x1]) sX6_counts (ci := 6) (by decide) rfl nX6_counts rfl w_392 w_394 w_395 w_35 w_393 (Nat.le_of_ble_eq_true rfl) dX0_sumReadings_18 rfl (fun v4 => ?_)
      refine q_if_ne hC 27 dX0_sumReadings_21 rfl ?_ ?_
      · refine q_aload_n hC 0 dX0_sumReadings_27 rfl rfl ?_
        refine q_iload_n hC 1 dX0_sumReadings_28 rfl rfl ?_
        refine q_cVI hC hnt (stk := []) (as := [.int x1]) sX0_edgeOf (ci := 0) (by decide) rfl nX0_edgeOf rfl w_410 w_412 w_413 w_149 w_411 (Nat.le_of_ble_eq_true rfl) dX0_sumReadings_29 rfl (fun v5 => ?_)
        refine q_istore_nA hC (loc' := [(2, .int v5), (0, .ref x0), (1, .int x1)]) dX0_sumReadings_32 rfl (Nat.le_of_ble_eq_true rfl) rfl ?_
        refine q_aload_n hC 1 dX0_sumReadings_33 rfl rfl ?_
        refine q_getR hC (by decide) (by decide) rfl w_93 dX0_sumReadings_34 (fun r6 => ?_)
        refine q_iload_n hC 0 dX0_sumReadings_37 rfl rfl ?_
        refine q_iconst hC dX0_sumReadings_38 rfl ?_
        refine q_cNV hC hnt (stk := []) (as := [.ref r6, .int v5, .int 1]) sX10_addTo nX10_addTo rfl w_414 w_416 w_27 w_415 (Nat.le_of_ble_eq_true rfl) dX0_sumReadings_39 rfl ?_
        refine q_aload_n hC 1 dX0_sumReadings_42 rfl rfl ?_
        refine q_iload_n hC 2 dX0_sumReadings_43 rfl rfl ?_
        refine q_aload_n hC 1 dX0_sumReadings_44 rfl rfl ?_
        refine q_getR hC (by decide) (by decide) rfl w_87 dX0_sumReadings_45 (fun r7 => ?_)
        refine q_iload_n hC 2 dX0_sumReadings_48 rfl rfl ?_
        refine q_cNI hC hnt (stk := [.int x1, .ref x0]) (as := [.ref r7, .int x1]) sX10_cell nX10_cell rfl w_352 w_202 w_27 w_201 (Nat.le_of_ble_eq_true rfl) dX0_sumReadings_49 rfl (fun v8 => ?_)
        refine q_cVI hC hnt (stk := []) (as := [.int x1, .int v8]) sX0_fromLesser (ci := 0) (by decide) rfl nX0_fromLesser rfl w_417 w_419 w_420 w_149 w_418 (Nat.le_of_ble_eq_true rfl) dX0_sumReadings_52 rfl (fun v9 => ?_)
        refine q_istore_nA hC (loc' := [(3, .int v9), (2, .int v5), (0, .ref x0), (1, .int x1)]) dX0_sumReadings_55 rfl (Nat.le_of_ble_eq_true rfl) rfl ?_
        refine q_aload_n hC 2 dX0_sumReadings_56 rfl rfl ?_
        refine q_iload_n hC 3 dX0_sumReadings_57 rfl rfl ?_
        refine q_cVI hC hnt (stk := []) (as := [.int x1]) sX0_isWith (ci := 0) (by decide) rfl nX0_isWith rfl w_421 w_423 w_424 w_149 w_422 (Nat.le_of_ble_eq_true rfl) dX0_sumReadings_58 rfl (fun v10 => ?_)
        refine q_if_eq hC 85 dX0_sumReadings_61 rfl ?_ ?_
        · refine q_aload_n hC 2 dX0_sumReadings_85 rfl rfl ?_
          refine q_getR hC (by decide) (by decide) rfl w_97 dX0_sumReadings_86 (fun r11 => ?_)
          refine q_iload_n hC 1 dX0_sumReadings_89 rfl rfl ?_
          refine q_iload_n hC 0 dX0_sumReadings_90 rfl rfl ?_
          refine q_cNV hC hnt (stk := []) (as := [.ref r11, .int v5, .int v9]) sX10_addTo nX10_addTo rfl w_414 w_416 w_27 w_415 (Nat.le_of_ble_eq_true rfl) dX0_sumReadings_91 rfl ?_
          refine q_iincA hC (loc' := [(1, .int (x1 + 1)), (3, .int v9), (2, .int v5), (0, .ref x0)]) 3 1 dX0_sumReadings_94 rfl rfl (Nat.le_of_ble_eq_true rfl) rfl ?_
          refine q_goto hC 2 dX0_sumReadings_97 rfl ?_
          exact c_sub [3, 0] rfl (hJ 1 [.ref x0, .int (x1 + 1)])
        · refine q_aload_n hC 2 dX0_sumReadings_64 rfl rfl ?_
          refine q_getR hC (by decide) (by decide) rfl w_95 dX0_sumReadings_65 (fun r12 => ?_)
          refine q_iload_n hC 1 dX0_sumReadings_68 rfl rfl ?_
          refine q_iconst hC dX0_sumReadings_69 rfl ?_
          refine q_cNV hC hnt (stk := []) (as := [.ref r12, .int v5, .int 1]) sX10_addTo nX10_addTo rfl w_414 w_416 w_27 w_415 (Nat.le_of_ble_eq_true rfl) dX0_sumReadings_70 rfl ?_
          refine q_aload_n hC 2 dX0_sumReadings_73 rfl rfl ?_
          refine q_getR hC (by decide) (by decide) rfl w_96 dX0_sumReadings_74 (fun r13 => ?_)
          refine q_iload_n hC 1 dX0_sumReadings_77 rfl rfl ?_
          refine q_iload_n hC 0 dX0_sumReadings_78 rfl rfl ?_
          refine q_cNV hC hnt (stk := []) (as := [.ref r13, .int v5, .int v9]) sX10_addTo nX10_addTo rfl w_414 w_416 w_27 w_415 (Nat.le_of_ble_eq_true rfl) dX0_sumReadings_79 rfl ?_
          refine q_goto hC 94 dX0_sumReadings_82 rfl ?_
          refine q_iincA hC (loc' := [(1, .int (x1 + 1)), (3, .int v9), (2, .int v5), (0, .ref x0)]) 3 1 dX0_sumReadings_94 rfl rfl (Nat.le_of_ble_eq_true rfl) rfl ?_
          refine q_goto hC 2 dX0_sumReadings_97 rfl ?_
          exact c_sub [3, 0] rfl (hJ 1 [.ref x0, .int (x1 + 1)])
      · refine q_goto hC 94 dX0_sumReadings_24 rfl ?_
        refine q_iincA hC (loc' := [(1, .int (x1 + 1)), (0, .ref x0)]) 1 1 dX0_sumReadings_94 rfl rfl (Nat.le_of_ble_eq_true rfl) rfl ?_
        refine q_goto hC 2 dX0_sumReadings_97 rfl ?_
        exact c_sub [1, 0] rfl (hJ 1 [.ref x0, .int (x1 + 1)])
  · exact c_no
theorem sX0_sumReadings : Snd yX0_sumReadings (.code yX0_sumReadings cX0_sumReadings 4 none) rmX0_sumReadings SX0_sumReadings := by
  refine Snd.of lX0_sumReadings (by decide +kernel) (fun _ => rfl) ?_
  intro Γ hC hnt hnm J hJ L a
  match L with
  | 0 => exact pX0_sumReadings_0 hC hnt J hJ a
  | 1 => exact pX0_sumReadings_1 hC hnt J hJ a
  | L + 2 => exact c_no
/-! SpiritWall$Edges.estimateOf(II)I -/
theorem dX0_estimateOf_0 : decode cX0_estimateOf 0 = .ok (.iload_n 1, 1) := by decide +kernel
theorem dX0_estimateOf_1 : decode cX0_estimateOf 1 = .ok (.iconst (-1), 1) := by decide +kernel
theorem dX0_estimateOf_2 : decode cX0_estimateOf 2 = .ok (.if_icmp .eq 21, 3) := by decide +kernel
theorem dX0_estimateOf_5 : decode cX0_estimateOf 5 = .ok (.aload_n 0, 1) := by decide +kernel
theorem dX0_estimateOf_6 : decode cX0_estimateOf 6 = .ok (.getfield 37, 3) := by decide +kernel
theorem dX0_estimateOf_9 : decode cX0_estimateOf 9 = .ok (.iload_n 1, 1) := by decide +kernel
theorem dX0_estimateOf_10 : decode cX0_estimateOf 10 = .ok (.invokestatic 102, 3) := by decide +kernel
theorem dX0_estimateOf_13 : decode cX0_estimateOf 13 = .ok (.iload_n 2, 1) := by decide +kernel
theorem dX0_estimateOf_14 : decode cX0_estimateOf 14 = .ok (.invokestatic 181, 3) := by decide +kernel
theorem dX0_estimateOf_17 : decode cX0_estimateOf 17 = .ok (.invokestatic 134, 3) := by decide +kernel
theorem dX0_estimateOf_20 : decode cX0_estimateOf 20 = .ok (.ifCond .ne 6, 3) := by decide +kernel
theorem dX0_estimateOf_23 : decode cX0_estimateOf 23 = .ok (.ldc 177, 2) := by decide +kernel
theorem dX0_estimateOf_25 : decode cX0_estimateOf 25 = .ok (.ireturn, 1) := by decide +kernel
theorem dX0_estimateOf_26 : decode cX0_estimateOf 26 = .ok (.aload_n 0, 1) := by decide +kernel
theorem dX0_estimateOf_27 : decode cX0_estimateOf 27 = .ok (.getfield 46, 3) := by decide +kernel
theorem dX0_estimateOf_30 : decode cX0_estimateOf 30 = .ok (.iload_n 1, 1) := by decide +kernel
theorem dX0_estimateOf_31 : decode cX0_estimateOf 31 = .ok (.invokestatic 102, 3) := by decide +kernel
theorem dX0_estimateOf_34 : decode cX0_estimateOf 34 = .ok (.istore_n 3, 1) := by decide +kernel
theorem dX0_estimateOf_35 : decode cX0_estimateOf 35 = .ok (.aload_n 0, 1) := by decide +kernel
theorem dX0_estimateOf_36 : decode cX0_estimateOf 36 = .ok (.getfield 40, 3) := by decide +kernel
theorem dX0_estimateOf_39 : decode cX0_estimateOf 39 = .ok (.iload_n 1, 1) := by decide +kernel
theorem dX0_estimateOf_40 : decode cX0_estimateOf 40 = .ok (.invokestatic 102, 3) := by decide +kernel
theorem dX0_estimateOf_43 : decode cX0_estimateOf 43 = .ok (.iload_n 3, 1) := by decide +kernel
theorem dX0_estimateOf_44 : decode cX0_estimateOf 44 = .ok (.isub, 1) := by decide +kernel
theorem dX0_estimateOf_45 : decode cX0_estimateOf 45 = .ok (.istore 4, 2) := by decide +kernel
theorem dX0_estimateOf_47 : decode cX0_estimateOf 47 = .ok (.iload_n 3, 1) := by decide +kernel
theorem dX0_estimateOf_48 : decode cX0_estimateOf 48 = .ok (.ifCond .eq 8, 3) := by decide +kernel
theorem dX0_estimateOf_51 : decode cX0_estimateOf 51 = .ok (.iload 4, 2) := by decide +kernel
theorem dX0_estimateOf_53 : decode cX0_estimateOf 53 = .ok (.ifCond .ne 6, 3) := by decide +kernel
theorem dX0_estimateOf_56 : decode cX0_estimateOf 56 = .ok (.ldc 177, 2) := by decide +kernel
theorem dX0_estimateOf_58 : decode cX0_estimateOf 58 = .ok (.ireturn, 1) := by decide +kernel
theorem dX0_estimateOf_59 : decode cX0_estimateOf 59 = .ok (.aload_n 0, 1) := by decide +kernel
theorem dX0_estimateOf_60 : decode cX0_estimateOf 60 = .ok (.getfield 49, 3) := by decide +kernel
theorem dX0_estimateOf_63 : decode cX0_estimateOf 63 = .ok (.iload_n 1, 1) := by decide +kernel
theorem dX0_estimateOf_64 : decode cX0_estimateOf 64 = .ok (.invokestatic 102, 3) := by decide +kernel
theorem dX0_estimateOf_67 : decode cX0_estimateOf 67 = .ok (.i2l, 1) := by decide +kernel
theorem dX0_estimateOf_68 : decode cX0_estimateOf 68 = .ok (.iload_n 3, 1) := by decide +kernel
theorem dX0_estimateOf_69 : decode cX0_estimateOf 69 = .ok (.i2l, 1) := by decide +kernel
theorem dX0_estimateOf_70 : decode cX0_estimateOf 70 = .ok (.invokestatic 170, 3) := by decide +kernel
theorem dX0_estimateOf_73 : decode cX0_estimateOf 73 = .ok (.aload_n 0, 1) := by decide +kernel
theorem dX0_estimateOf_74 : decode cX0_estimateOf 74 = .ok (.getfield 52, 3) := by decide +kernel
theorem dX0_estimateOf_77 : decode cX0_estimateOf 77 = .ok (.iload_n 1, 1) := by decide +kernel
theorem dX0_estimateOf_78 : decode cX0_estimateOf 78 = .ok (.invokestatic 102, 3) := by decide +kernel
theorem dX0_estimateOf_81 : decode cX0_estimateOf 81 = .ok (.i2l, 1) := by decide +kernel
theorem dX0_estimateOf_82 : decode cX0_estimateOf 82 = .ok (.iload 4, 2) := by decide +kernel
theorem dX0_estimateOf_84 : decode cX0_estimateOf 84 = .ok (.i2l, 1) := by decide +kernel
theorem dX0_estimateOf_85 : decode cX0_estimateOf 85 = .ok (.invokestatic 170, 3) := by decide +kernel
theorem dX0_estimateOf_88 : decode cX0_estimateOf 88 = .ok (.lsub, 1) := by decide +kernel
theorem dX0_estimateOf_89 : decode cX0_estimateOf 89 = .ok (.lstore 5, 2) := by decide +kernel
theorem dX0_estimateOf_91 : decode cX0_estimateOf 91 = .ok (.lload 5, 2) := by decide +kernel
theorem dX0_estimateOf_93 : decode cX0_estimateOf 93 = .ok (.ldc2_w 184, 3) := by decide +kernel
theorem dX0_estimateOf_96 : decode cX0_estimateOf 96 = .ok (.invokestatic 170, 3) := by decide +kernel
theorem dX0_estimateOf_99 : decode cX0_estimateOf 99 = .ok (.l2i, 1) := by decide +kernel
theorem dX0_estimateOf_100 : decode cX0_estimateOf 100 = .ok (.ireturn, 1) := by decide +kernel
def rmX0_estimateOf : Room := rmk 9 0 0 219
theorem nX0_estimateOf : nameOk yX0_estimateOf 2 = true := by decide +kernel
def bX0_estimateOf_0 (J : JT) : List Value → Sem
  | [.ref x0, .int x1, .int x2] =>
    br (x1 = ((-1) : Int32))
    (rI (-10000000))
    (gR 0 10 x0 fun r1 =>
    cI SX10_cell [.ref r1, .int x1] fun v2 =>
    cI SX0_swings [.int v2, .int x2] fun v3 =>
    cI SX0_isOdd [.int v3] fun v4 =>
    br (v4 = 0)
    (rI (-10000000))
    (gR 0 13 x0 fun r5 =>
    cI SX10_cell [.ref r5, .int x1] fun v6 =>
    gR 0 11 x0 fun r7 =>
    cI SX10_cell [.ref r7, .int x1] fun v8 =>
    lI (v8 - v6) fun y4_9 =>
    br (v6 = 0)
    (rI (-10000000))
    (br (y4_9 = 0)
    (rI (-10000000))
    (gR 0 14 x0 fun r10 =>
    cI SX10_cell [.ref r10, .int x1] fun v11 =>
    cJ SX10_quotient [.long (v11.toInt64), .long (v6.toInt64)] fun v12 =>
    gR 0 15 x0 fun r13 =>
    cI SX10_cell [.ref r13, .int x1] fun v14 =>
    cJ SX10_quotient [.long (v14.toInt64), .long (y4_9.toInt64)] fun v15 =>
    lJ (v12 - v15) fun y5_16 =>
    cJ SX10_quotient [.long y5_16, .long 2] fun v17 =>
    rI (v17.toInt32)))))
  | _ => no
def bX0_estimateOf (J : JT) : JT := fun L a => match L with
  | 0 => bX0_estimateOf_0 J a
  | _ => no
def SX0_estimateOf : ST := mk 7 bX0_estimateOf
def lX0_estimateOf (L : Nat) (a : List Value) : Nat × Nat × Nat × List (Nat × Value) × List Value := match L with
  | 0 => (0, 0, 0, lv_args 0 a, [])
  | _ => (0, 0, 0, [], [])
theorem pX0_estimateOf_0 {Γ : CT} (hC : Ctx Γ "SpiritWall$Edges" cX0_estimateOf 7 (some .int) rmX0_estimateOf) (hnt : NT Γ) (J : JT) (hJ : ∀ L a, Cor Γ 7 (lX0_estimateOf L a).1 (lX0_estimateOf L a).2.1 (lX0_estimateOf L a).2.2.1 (lX0_estimateOf L a).2.2.2.1 (lX0_estimateOf L a).2.2.2.2 (J L a)) (a : List Value) : Cor Γ 7 0 0 0 (lv_args 0 a) [] (bX0_estimateOf_0 J a) := by
  unfold bX0_estimateOf_0
  split
  · rename_i x0 x1 x2
    refine c_sub [0, 1, 2] rfl (loc' := [(0, .ref x0), (1, .int x1), (2, .int x2)]) ?_
    refine q_iload_n hC 1 dX0_estimateOf_0 rfl rfl ?_
    refine q_iconst hC dX0_estimateOf_1 rfl ?_
    refine q_ic_eq hC 23 dX0_estimateOf_2 rfl ?_ ?_
    · refine q_ldc hC w_425 dX0_estimateOf_23 ?_
      exact q_iret hC dX0_estimateOf_25 (Nat.le_of_ble_eq_true rfl) (Nat.le_of_ble_eq_true rfl)
    · refine q_aload_n hC 0 dX0_estimateOf_5 rfl rfl ?_
      refine q_getR hC (by decide) (by decide) rfl w_92 dX0_estimateOf_6 (fun r1 => ?_)
      refine q_iload_n hC 1 dX0_estimateOf_9 rfl rfl ?_
      refine q_cNI hC hnt (stk := []) (as := [.ref r1, .int x1]) sX10_cell nX10_cell rfl w_352 w_202 w_27 w_201 (Nat.le_of_ble_eq_true rfl) dX0_estimateOf_10 rfl (fun v2 => ?_)
      refine q_iload_n hC 2 dX0_estimateOf_13 rfl rfl ?_
      refine q_cSI hC hnt (stk := []) (as := [.int v2, .int x2]) sX0_swings nX0_swings rfl w_363 w_365 w_149 w_364 (Nat.le_of_ble_eq_true rfl) dX0_estimateOf_14 rfl (fun v3 => ?_)
      refine q_cSI hC hnt (stk := []) (as := [.int v3]) sX0_isOdd nX0_isOdd rfl w_388 w_390 w_149 w_389 (Nat.le_of_ble_eq_true rfl) dX0_estimateOf_17 rfl (fun v4 => ?_)
      refine q_if_ne hC 26 dX0_estimateOf_20 rfl ?_ ?_
      · refine q_aload_n hC 0 dX0_estimateOf_26 rfl rfl ?_
        refine q_getR hC (by decide) (by decide) rfl w_95 dX0_estimateOf_27 (fun r5 => ?_)
        refine q_iload_n hC 1 dX0_estimateOf_30 rfl rfl ?_
        refine q_cNI hC hnt (stk := []) (as := [.ref r5, .int x1]) sX10_cell nX10_cell rfl w_352 w_202 w_27 w_201 (Nat.le_of_ble_eq_true rfl) dX0_estimateOf_31 rfl (fun v6 => ?_)
        refine q_istore_nA hC (loc' := [(3, .int v6), (0, .ref x0), (1, .int x1), (2, .int x2)]) dX0_estimateOf_34 rfl (Nat.le_of_ble_eq_true rfl) rfl ?_
        refine q_aload_n hC 1 dX0_estimateOf_35 rfl rfl ?_
        refine q_getR hC (by decide) (by decide) rfl w_93 dX0_estimateOf_36 (fun r7 => ?_)
        refine q_iload_n hC 2 dX0_estimateOf_39 rfl rfl ?_
        refine q_cNI hC hnt (stk := []) (as := [.ref r7, .int x1]) sX10_cell nX10_cell rfl w_352 w_202 w_27 w_201 (Nat.le_of_ble_eq_true rfl) dX0_estimateOf_40 rfl (fun v8 => ?_)
        refine q_iload_n hC 0 dX0_estimateOf_43 rfl rfl ?_
        refine q_isub hC dX0_estimateOf_44 ?_
        refine q_istore hC (fun y4_9 => [(4, .int y4_9), (3, .int v6), (0, .ref x0), (1, .int x1), (2, .int x2)]) dX0_estimateOf_45 (Nat.le_of_ble_eq_true rfl) (fun _ => rfl) (fun y4_9 => ?_)
        refine q_iload_n hC 1 dX0_estimateOf_47 rfl rfl ?_
        refine q_if_eq hC 56 dX0_estimateOf_48 rfl ?_ ?_
        · refine q_ldc hC w_425 dX0_estimateOf_56 ?_
          exact q_iret hC dX0_estimateOf_58 (Nat.le_of_ble_eq_true rfl) (Nat.le_of_ble_eq_true rfl)
        · refine q_iload hC 0 dX0_estimateOf_51 rfl ?_
          refine q_if_ne hC 59 dX0_estimateOf_53 rfl ?_ ?_
          · refine q_aload_n hC 2 dX0_estimateOf_59 rfl rfl ?_
            refine q_getR hC (by decide) (by decide) rfl w_96 dX0_estimateOf_60 (fun r10 => ?_)
            refine q_iload_n hC 3 dX0_estimateOf_63 rfl rfl ?_
            refine q_cNI hC hnt (stk := []) (as := [.ref r10, .int x1]) sX10_cell nX10_cell rfl w_352 w_202 w_27 w_201 (Nat.le_of_ble_eq_true rfl) dX0_estimateOf_64 rfl (fun v11 => ?_)
            refine q_i2l hC dX0_estimateOf_67 ?_
            refine q_iload_n hC 1 dX0_estimateOf_68 rfl rfl ?_
            refine q_i2l hC dX0_estimateOf_69 ?_
            refine q_cNJ hC hnt (stk := []) (as := [.long (v11.toInt64), .long (v6.toInt64)]) sX10_quotient nX10_quotient rfl w_358 w_360 w_27 w_359 (Nat.le_of_ble_eq_true rfl) dX0_estimateOf_70 rfl (fun v12 => ?_)
            refine q_aload_n hC 2 dX0_estimateOf_73 rfl rfl ?_
            refine q_getR hC (by decide) (by decide) rfl w_97 dX0_estimateOf_74 (fun r13 => ?_)
            refine q_iload_n hC 3 dX0_estimateOf_77 rfl rfl ?_
            refine q_cNI hC hnt (stk := [.long v12]) (as := [.ref r13, .int x1]) sX10_cell nX10_cell rfl w_352 w_202 w_27 w_201 (Nat.le_of_ble_eq_true rfl) dX0_estimateOf_78 rfl (fun v14 => ?_)
            refine q_i2l hC dX0_estimateOf_81 ?_
            refine q_iload hC 0 dX0_estimateOf_82 rfl ?_
            refine q_i2l hC dX0_estimateOf_84 ?_
            refine q_cNJ hC hnt (stk := [.long v12]) (as := [.long (v14.toInt64), .long (y4_9.toInt64)]) sX10_quotient nX10_quotient rfl w_358 w_360 w_27 w_359 (Nat.le_of_ble_eq_true rfl) dX0_estimateOf_85 rfl (fun v15 => ?_)
            refine q_lsub hC dX0_estimateOf_88 ?_
            refine q_lstore hC (fun y5_16 => [(5, .long y5_16), (4, .int y4_9), (3, .int v6), (0, .ref x0), (1, .int x1), (2, .int x2)]) dX0_estimateOf_89 (Nat.le_of_ble_eq_true rfl) (fun _ => rfl) (fun y5_16 => ?_)
            refine q_lload hC 0 dX0_estimateOf_91 rfl ?_
            refine q_ldc2 hC w_426 dX0_estimateOf_93 ?_
            refine q_cNJ hC hnt (stk := []) (as := [.long y5_16, .long 2]) sX10_quotient nX10_quotient rfl w_358 w_360 w_27 w_359 (Nat.le_of_ble_eq_true rfl) dX0_estimateOf_96 rfl (fun v17 => ?_)
            refine q_l2i hC dX0_estimateOf_99 ?_
            exact q_iret hC dX0_estimateOf_100 (Nat.le_of_ble_eq_true rfl) (Nat.le_of_ble_eq_true rfl)
          · refine q_ldc hC w_425 dX0_estimateOf_56 ?_
            exact q_iret hC dX0_estimateOf_58 (Nat.le_of_ble_eq_true rfl) (Nat.le_of_ble_eq_true rfl)
      · refine q_ldc hC w_425 dX0_estimateOf_23 ?_
        exact q_iret hC dX0_estimateOf_25 (Nat.le_of_ble_eq_true rfl) (Nat.le_of_ble_eq_true rfl)
  · exact c_no
theorem sX0_estimateOf : Snd yX0_estimateOf (.code yX0_estimateOf cX0_estimateOf 7 (some .int)) rmX0_estimateOf SX0_estimateOf := by
  refine Snd.of lX0_estimateOf (by decide +kernel) (fun _ => rfl) ?_
  intro Γ hC hnt hnm J hJ L a
  match L with
  | 0 => exact pX0_estimateOf_0 hC hnt J hJ a
  | L + 1 => exact c_no
/-! SpiritWall$Edges.insert(II)V -/
theorem dX0_insert_0 : decode cX0_insert 0 = .ok (.iload_n 2, 1) := by decide +kernel
theorem dX0_insert_1 : decode cX0_insert 1 = .ok (.istore_n 3, 1) := by decide +kernel
theorem dX0_insert_2 : decode cX0_insert 2 = .ok (.iload_n 3, 1) := by decide +kernel
theorem dX0_insert_3 : decode cX0_insert 3 = .ok (.ifCond .le 41, 3) := by decide +kernel
theorem dX0_insert_6 : decode cX0_insert 6 = .ok (.aload_n 0, 1) := by decide +kernel
theorem dX0_insert_7 : decode cX0_insert 7 = .ok (.getfield 55, 3) := by decide +kernel
theorem dX0_insert_10 : decode cX0_insert 10 = .ok (.iload_n 3, 1) := by decide +kernel
theorem dX0_insert_11 : decode cX0_insert 11 = .ok (.iconst 1, 1) := by decide +kernel
theorem dX0_insert_12 : decode cX0_insert 12 = .ok (.isub, 1) := by decide +kernel
theorem dX0_insert_13 : decode cX0_insert 13 = .ok (.invokestatic 102, 3) := by decide +kernel
theorem dX0_insert_16 : decode cX0_insert 16 = .ok (.iload_n 1, 1) := by decide +kernel
theorem dX0_insert_17 : decode cX0_insert 17 = .ok (.if_icmp .le 27, 3) := by decide +kernel
theorem dX0_insert_20 : decode cX0_insert 20 = .ok (.aload_n 0, 1) := by decide +kernel
theorem dX0_insert_21 : decode cX0_insert 21 = .ok (.getfield 55, 3) := by decide +kernel
theorem dX0_insert_24 : decode cX0_insert 24 = .ok (.iload_n 3, 1) := by decide +kernel
theorem dX0_insert_25 : decode cX0_insert 25 = .ok (.aload_n 0, 1) := by decide +kernel
theorem dX0_insert_26 : decode cX0_insert 26 = .ok (.getfield 55, 3) := by decide +kernel
theorem dX0_insert_29 : decode cX0_insert 29 = .ok (.iload_n 3, 1) := by decide +kernel
theorem dX0_insert_30 : decode cX0_insert 30 = .ok (.iconst 1, 1) := by decide +kernel
theorem dX0_insert_31 : decode cX0_insert 31 = .ok (.isub, 1) := by decide +kernel
theorem dX0_insert_32 : decode cX0_insert 32 = .ok (.invokestatic 102, 3) := by decide +kernel
theorem dX0_insert_35 : decode cX0_insert 35 = .ok (.invokestatic 115, 3) := by decide +kernel
theorem dX0_insert_38 : decode cX0_insert 38 = .ok (.iinc 3 (-1), 3) := by decide +kernel
theorem dX0_insert_41 : decode cX0_insert 41 = .ok (.goto (-39), 3) := by decide +kernel
theorem dX0_insert_44 : decode cX0_insert 44 = .ok (.aload_n 0, 1) := by decide +kernel
theorem dX0_insert_45 : decode cX0_insert 45 = .ok (.getfield 55, 3) := by decide +kernel
theorem dX0_insert_48 : decode cX0_insert 48 = .ok (.iload_n 3, 1) := by decide +kernel
theorem dX0_insert_49 : decode cX0_insert 49 = .ok (.iload_n 1, 1) := by decide +kernel
theorem dX0_insert_50 : decode cX0_insert 50 = .ok (.invokestatic 115, 3) := by decide +kernel
theorem dX0_insert_53 : decode cX0_insert 53 = .ok (.return_, 1) := by decide +kernel
def rmX0_insert : Room := rmk 7 0 0 172
theorem nX0_insert : nameOk yX0_insert 2 = true := by decide +kernel
def bX0_insert_0 (J : JT) : List Value → Sem
  | [.ref x0, .int x1, .int x2] =>
    J 1 [.ref x0, .int x1, .int x2]
  | _ => no
def bX0_insert_1 (J : JT) : List Value → Sem
  | [.ref x0, .int x1, .int x3] =>
    br (x3 ≤ 0)
    (gR 0 16 x0 fun r1 =>
    cV SX10_put [.ref r1, .int x3, .int x1] <|
    rV)
    (gR 0 16 x0 fun r2 =>
    cI SX10_cell [.ref r2, .int (x3 - 1)] fun v3 =>
    br (v3 ≤ x1)
    (gR 0 16 x0 fun r4 =>
    cV SX10_put [.ref r4, .int x3, .int x1] <|
    rV)
    (gR 0 16 x0 fun r5 =>
    gR 0 16 x0 fun r6 =>
    cI SX10_cell [.ref r6, .int (x3 - 1)] fun v7 =>
    cV SX10_put [.ref r5, .int x3, .int v7] <|
    J 1 [.ref x0, .int x1, .int (x3 + (-1))]))
  | _ => no
def bX0_insert (J : JT) : JT := fun L a => match L with
  | 0 => bX0_insert_0 J a
  | 1 => bX0_insert_1 J a
  | _ => no
def SX0_insert : ST := mk 4 bX0_insert
def lX0_insert (L : Nat) (a : List Value) : Nat × Nat × Nat × List (Nat × Value) × List Value := match L with
  | 0 => (0, 0, 0, lv_args 0 a, [])
  | 1 => (0, 0, 2, List.zip [0, 1, 3] a, [])
  | _ => (0, 0, 0, [], [])
theorem pX0_insert_0 {Γ : CT} (hC : Ctx Γ "SpiritWall$Edges" cX0_insert 4 none rmX0_insert) (hnt : NT Γ) (J : JT) (hJ : ∀ L a, Cor Γ 4 (lX0_insert L a).1 (lX0_insert L a).2.1 (lX0_insert L a).2.2.1 (lX0_insert L a).2.2.2.1 (lX0_insert L a).2.2.2.2 (J L a)) (a : List Value) : Cor Γ 4 0 0 0 (lv_args 0 a) [] (bX0_insert_0 J a) := by
  unfold bX0_insert_0
  split
  · rename_i x0 x1 x2
    refine c_sub [0, 1, 2] rfl (loc' := [(0, .ref x0), (1, .int x1), (2, .int x2)]) ?_
    refine q_iload_n hC 2 dX0_insert_0 rfl rfl ?_
    refine q_istore_nA hC (loc' := [(3, .int x2), (0, .ref x0), (1, .int x1), (2, .int x2)]) dX0_insert_1 rfl (Nat.le_of_ble_eq_true rfl) rfl ?_
    exact c_sub [1, 2, 0] rfl (hJ 1 [.ref x0, .int x1, .int x2])
  · exact c_no
theorem pX0_insert_1 {Γ : CT} (hC : Ctx Γ "SpiritWall$Edges" cX0_insert 4 none rmX0_insert) (hnt : NT Γ) (J : JT) (hJ : ∀ L a, Cor Γ 4 (lX0_insert L a).1 (lX0_insert L a).2.1 (lX0_insert L a).2.2.1 (lX0_insert L a).2.2.2.1 (lX0_insert L a).2.2.2.2 (J L a)) (a : List Value) : Cor Γ 4 0 0 2 (List.zip [0, 1, 3] a) [] (bX0_insert_1 J a) := by
  unfold bX0_insert_1
  split
  · rename_i x0 x1 x3
    refine c_sub [0, 1, 2] rfl (loc' := [(0, .ref x0), (1, .int x1), (3, .int x3)]) ?_
    refine q_iload_n hC 2 dX0_insert_2 rfl rfl ?_
    refine q_if_le hC 44 dX0_insert_3 rfl ?_ ?_
    · refine q_aload_n hC 0 dX0_insert_44 rfl rfl ?_
      refine q_getR hC (by decide) (by decide) rfl w_98 dX0_insert_45 (fun r1 => ?_)
      refine q_iload_n hC 2 dX0_insert_48 rfl rfl ?_
      refine q_iload_n hC 1 dX0_insert_49 rfl rfl ?_
      refine q_cNV hC hnt (stk := []) (as := [.ref r1, .int x3, .int x1]) sX10_put nX10_put rfl w_373 w_187 w_27 w_186 (Nat.le_of_ble_eq_true rfl) dX0_insert_50 rfl ?_
      exact q_vret hC dX0_insert_53 (Nat.le_of_ble_eq_true rfl) (Nat.le_of_ble_eq_true rfl)
    · refine q_aload_n hC 0 dX0_insert_6 rfl rfl ?_
      refine q_getR hC (by decide) (by decide) rfl w_98 dX0_insert_7 (fun r2 => ?_)
      refine q_iload_n hC 2 dX0_insert_10 rfl rfl ?_
      refine q_iconst hC dX0_insert_11 rfl ?_
      refine q_isub hC dX0_insert_12 ?_
      refine q_cNI hC hnt (stk := []) (as := [.ref r2, .int (x3 - 1)]) sX10_cell nX10_cell rfl w_352 w_202 w_27 w_201 (Nat.le_of_ble_eq_true rfl) dX0_insert_13 rfl (fun v3 => ?_)
      refine q_iload_n hC 1 dX0_insert_16 rfl rfl ?_
      refine q_ic_le hC 44 dX0_insert_17 rfl ?_ ?_
      · refine q_aload_n hC 0 dX0_insert_44 rfl rfl ?_
        refine q_getR hC (by decide) (by decide) rfl w_98 dX0_insert_45 (fun r4 => ?_)
        refine q_iload_n hC 2 dX0_insert_48 rfl rfl ?_
        refine q_iload_n hC 1 dX0_insert_49 rfl rfl ?_
        refine q_cNV hC hnt (stk := []) (as := [.ref r4, .int x3, .int x1]) sX10_put nX10_put rfl w_373 w_187 w_27 w_186 (Nat.le_of_ble_eq_true rfl) dX0_insert_50 rfl ?_
        exact q_vret hC dX0_insert_53 (Nat.le_of_ble_eq_true rfl) (Nat.le_of_ble_eq_true rfl)
      · refine q_aload_n hC 0 dX0_insert_20 rfl rfl ?_
        refine q_getR hC (by decide) (by decide) rfl w_98 dX0_insert_21 (fun r5 => ?_)
        refine q_iload_n hC 2 dX0_insert_24 rfl rfl ?_
        refine q_aload_n hC 0 dX0_insert_25 rfl rfl ?_
        refine q_getR hC (by decide) (by decide) rfl w_98 dX0_insert_26 (fun r6 => ?_)
        refine q_iload_n hC 2 dX0_insert_29 rfl rfl ?_
        refine q_iconst hC dX0_insert_30 rfl ?_
        refine q_isub hC dX0_insert_31 ?_
        refine q_cNI hC hnt (stk := [.int x3, .ref r5]) (as := [.ref r6, .int (x3 - 1)]) sX10_cell nX10_cell rfl w_352 w_202 w_27 w_201 (Nat.le_of_ble_eq_true rfl) dX0_insert_32 rfl (fun v7 => ?_)
        refine q_cNV hC hnt (stk := []) (as := [.ref r5, .int x3, .int v7]) sX10_put nX10_put rfl w_373 w_187 w_27 w_186 (Nat.le_of_ble_eq_true rfl) dX0_insert_35 rfl ?_
        refine q_iincA hC (loc' := [(3, .int (x3 + (-1))), (0, .ref x0), (1, .int x1)]) 2 (-1) dX0_insert_38 rfl rfl (Nat.le_of_ble_eq_true rfl) rfl ?_
        refine q_goto hC 2 dX0_insert_41 rfl ?_
        exact c_sub [1, 2, 0] rfl (hJ 1 [.ref x0, .int x1, .int (x3 + (-1))])
  · exact c_no
theorem sX0_insert : Snd yX0_insert (.code yX0_insert cX0_insert 4 none) rmX0_insert SX0_insert := by
  refine Snd.of lX0_insert (by decide +kernel) (fun _ => rfl) ?_
  intro Γ hC hnt hnm J hJ L a
  match L with
  | 0 => exact pX0_insert_0 hC hnt J hJ a
  | 1 => exact pX0_insert_1 hC hnt J hJ a
  | L + 2 => exact c_no
/-! SpiritWall$Edges.foundError(I)I -/
theorem dX0_foundError_0 : decode cX0_foundError 0 = .ok (.iconst 0, 1) := by decide +kernel
theorem dX0_foundError_1 : decode cX0_foundError 1 = .ok (.istore_n 2, 1) := by decide +kernel
theorem dX0_foundError_2 : decode cX0_foundError 2 = .ok (.iconst 0, 1) := by decide +kernel
theorem dX0_foundError_3 : decode cX0_foundError 3 = .ok (.istore_n 3, 1) := by decide +kernel
theorem dX0_foundError_4 : decode cX0_foundError 4 = .ok (.iload_n 3, 1) := by decide +kernel
theorem dX0_foundError_5 : decode cX0_foundError 5 = .ok (.aload_n 0, 1) := by decide +kernel
theorem dX0_foundError_6 : decode cX0_foundError 6 = .ok (.getfield 15, 3) := by decide +kernel
theorem dX0_foundError_9 : decode cX0_foundError 9 = .ok (.if_icmp .ge 37, 3) := by decide +kernel
theorem dX0_foundError_12 : decode cX0_foundError 12 = .ok (.aload_n 0, 1) := by decide +kernel
theorem dX0_foundError_13 : decode cX0_foundError 13 = .ok (.iload_n 3, 1) := by decide +kernel
theorem dX0_foundError_14 : decode cX0_foundError 14 = .ok (.iload_n 1, 1) := by decide +kernel
theorem dX0_foundError_15 : decode cX0_foundError 15 = .ok (.invokevirtual 174, 3) := by decide +kernel
theorem dX0_foundError_18 : decode cX0_foundError 18 = .ok (.istore 4, 2) := by decide +kernel
theorem dX0_foundError_20 : decode cX0_foundError 20 = .ok (.iload 4, 2) := by decide +kernel
theorem dX0_foundError_22 : decode cX0_foundError 22 = .ok (.ldc 177, 2) := by decide +kernel
theorem dX0_foundError_24 : decode cX0_foundError 24 = .ok (.if_icmp .ne 6, 3) := by decide +kernel
theorem dX0_foundError_27 : decode cX0_foundError 27 = .ok (.goto 13, 3) := by decide +kernel
theorem dX0_foundError_30 : decode cX0_foundError 30 = .ok (.aload_n 0, 1) := by decide +kernel
theorem dX0_foundError_31 : decode cX0_foundError 31 = .ok (.iload 4, 2) := by decide +kernel
theorem dX0_foundError_33 : decode cX0_foundError 33 = .ok (.iload_n 2, 1) := by decide +kernel
theorem dX0_foundError_34 : decode cX0_foundError 34 = .ok (.invokevirtual 178, 3) := by decide +kernel
theorem dX0_foundError_37 : decode cX0_foundError 37 = .ok (.iinc 2 1, 3) := by decide +kernel
theorem dX0_foundError_40 : decode cX0_foundError 40 = .ok (.iinc 3 1, 3) := by decide +kernel
theorem dX0_foundError_43 : decode cX0_foundError 43 = .ok (.goto (-39), 3) := by decide +kernel
theorem dX0_foundError_46 : decode cX0_foundError 46 = .ok (.iload_n 2, 1) := by decide +kernel
theorem dX0_foundError_47 : decode cX0_foundError 47 = .ok (.ifCond .ne 7, 3) := by decide +kernel
theorem dX0_foundError_50 : decode cX0_foundError 50 = .ok (.iconst 0, 1) := by decide +kernel
theorem dX0_foundError_51 : decode cX0_foundError 51 = .ok (.goto 15, 3) := by decide +kernel
theorem dX0_foundError_54 : decode cX0_foundError 54 = .ok (.aload_n 0, 1) := by decide +kernel
theorem dX0_foundError_55 : decode cX0_foundError 55 = .ok (.getfield 55, 3) := by decide +kernel
theorem dX0_foundError_58 : decode cX0_foundError 58 = .ok (.iload_n 2, 1) := by decide +kernel
theorem dX0_foundError_59 : decode cX0_foundError 59 = .ok (.iconst 1, 1) := by decide +kernel
theorem dX0_foundError_60 : decode cX0_foundError 60 = .ok (.isub, 1) := by decide +kernel
theorem dX0_foundError_61 : decode cX0_foundError 61 = .ok (.iconst 2, 1) := by decide +kernel
theorem dX0_foundError_62 : decode cX0_foundError 62 = .ok (.idiv, 1) := by decide +kernel
theorem dX0_foundError_63 : decode cX0_foundError 63 = .ok (.invokestatic 102, 3) := by decide +kernel
theorem dX0_foundError_66 : decode cX0_foundError 66 = .ok (.ireturn, 1) := by decide +kernel
def rmX0_foundError : Room := rmk 10 0 0 245
theorem nX0_foundError : nameOk yX0_foundError 1 = true := by decide +kernel
def bX0_foundError_0 (J : JT) : List Value → Sem
  | [.ref x0, .int x1] =>
    J 1 [.ref x0, .int x1, .int 0, .int 0]
  | _ => no
def bX0_foundError_1 (J : JT) : List Value → Sem
  | [.ref x0, .int x1, .int x2, .int x3] =>
    gI 0 3 x0 fun v1 =>
    br (v1 ≤ x3)
    (br (x2 = 0)
    (rI 0)
    (gR 0 16 x0 fun r2 =>
    nz 2 <|
    cI SX10_cell [.ref r2, .int ((x2 - 1) / 2)] fun v3 =>
    rI v3))
    (ob 0 x0 (cI SX0_estimateOf [.ref x0, .int x3, .int x1] fun v4 =>
    br (v4 = ((-10000000) : Int32))
    (J 1 [.ref x0, .int x1, .int x2, .int (x3 + 1)])
    (ob 0 x0 (cV SX0_insert [.ref x0, .int v4, .int x2] <|
    J 1 [.ref x0, .int x1, .int (x2 + 1), .int (x3 + 1)]))))
  | _ => no
def bX0_foundError (J : JT) : JT := fun L a => match L with
  | 0 => bX0_foundError_0 J a
  | 1 => bX0_foundError_1 J a
  | _ => no
def SX0_foundError : ST := mk 5 bX0_foundError
def lX0_foundError (L : Nat) (a : List Value) : Nat × Nat × Nat × List (Nat × Value) × List Value := match L with
  | 0 => (0, 0, 0, lv_args 0 a, [])
  | 1 => (0, 0, 4, List.zip [0, 1, 2, 3] a, [])
  | _ => (0, 0, 0, [], [])
theorem pX0_foundError_0 {Γ : CT} (hC : Ctx Γ "SpiritWall$Edges" cX0_foundError 5 (some .int) rmX0_foundError) (hnt : NT Γ) (J : JT) (hJ : ∀ L a, Cor Γ 5 (lX0_foundError L a).1 (lX0_foundError L a).2.1 (lX0_foundError L a).2.2.1 (lX0_foundError L a).2.2.2.1 (lX0_foundError L a).2.2.2.2 (J L a)) (a : List Value) : Cor Γ 5 0 0 0 (lv_args 0 a) [] (bX0_foundError_0 J a) := by
  unfold bX0_foundError_0
  split
  · rename_i x0 x1
    refine c_sub [0, 1] rfl (loc' := [(0, .ref x0), (1, .int x1)]) ?_
    refine q_iconst hC dX0_foundError_0 rfl ?_
    refine q_istore_nA hC (loc' := [(2, .int 0), (0, .ref x0), (1, .int x1)]) dX0_foundError_1 rfl (Nat.le_of_ble_eq_true rfl) rfl ?_
    refine q_iconst hC dX0_foundError_2 rfl ?_
    refine q_istore_nA hC (loc' := [(3, .int 0), (2, .int 0), (0, .ref x0), (1, .int x1)]) dX0_foundError_3 rfl (Nat.le_of_ble_eq_true rfl) rfl ?_
    exact c_sub [2, 3, 1, 0] rfl (hJ 1 [.ref x0, .int x1, .int 0, .int 0])
  · exact c_no
theorem pX0_foundError_1 {Γ : CT} (hC : Ctx Γ "SpiritWall$Edges" cX0_foundError 5 (some .int) rmX0_foundError) (hnt : NT Γ) (J : JT) (hJ : ∀ L a, Cor Γ 5 (lX0_foundError L a).1 (lX0_foundError L a).2.1 (lX0_foundError L a).2.2.1 (lX0_foundError L a).2.2.2.1 (lX0_foundError L a).2.2.2.2 (J L a)) (a : List Value) : Cor Γ 5 0 0 4 (List.zip [0, 1, 2, 3] a) [] (bX0_foundError_1 J a) := by
  unfold bX0_foundError_1
  split
  · rename_i x0 x1 x2 x3
    refine c_sub [0, 1, 2, 3] rfl (loc' := [(0, .ref x0), (1, .int x1), (2, .int x2), (3, .int x3)]) ?_
    refine q_iload_n hC 3 dX0_foundError_4 rfl rfl ?_
    refine q_aload_n hC 0 dX0_foundError_5 rfl rfl ?_
    refine q_getI hC (by decide) (by decide) rfl w_85 dX0_foundError_6 (fun v1 => ?_)
    refine q_ic_ge hC 46 dX0_foundError_9 rfl ?_ ?_
    · refine q_iload_n hC 2 dX0_foundError_46 rfl rfl ?_
      refine q_if_ne hC 54 dX0_foundError_47 rfl ?_ ?_
      · refine q_aload_n hC 0 dX0_foundError_54 rfl rfl ?_
        refine q_getR hC (by decide) (by decide) rfl w_98 dX0_foundError_55 (fun r2 => ?_)
        refine q_iload_n hC 2 dX0_foundError_58 rfl rfl ?_
        refine q_iconst hC dX0_foundError_59 rfl ?_
        refine q_isub hC dX0_foundError_60 ?_
        refine q_iconst hC dX0_foundError_61 rfl ?_
        refine q_idiv hC dX0_foundError_62 ?_
        refine q_cNI hC hnt (stk := []) (as := [.ref r2, .int ((x2 - 1) / 2)]) sX10_cell nX10_cell rfl w_352 w_202 w_27 w_201 (Nat.le_of_ble_eq_true rfl) dX0_foundError_63 rfl (fun v3 => ?_)
        exact q_iret hC dX0_foundError_66 (Nat.le_of_ble_eq_true rfl) (Nat.le_of_ble_eq_true rfl)
      · refine q_iconst hC dX0_foundError_50 rfl ?_
        refine q_goto hC 66 dX0_foundError_51 rfl ?_
        exact q_iret hC dX0_foundError_66 (Nat.le_of_ble_eq_true rfl) (Nat.le_of_ble_eq_true rfl)
    · refine q_aload_n hC 0 dX0_foundError_12 rfl rfl ?_
      refine q_iload_n hC 3 dX0_foundError_13 rfl rfl ?_
      refine q_iload_n hC 1 dX0_foundError_14 rfl rfl ?_
      refine q_cVI hC hnt (stk := []) (as := [.int x3, .int x1]) sX0_estimateOf (ci := 0) (by decide) rfl nX0_estimateOf rfl w_427 w_429 w_430 w_149 w_428 (Nat.le_of_ble_eq_true rfl) dX0_foundError_15 rfl (fun v4 => ?_)
      refine q_istoreA hC (loc' := [(4, .int v4), (0, .ref x0), (1, .int x1), (2, .int x2), (3, .int x3)]) dX0_foundError_18 (Nat.le_of_ble_eq_true rfl) rfl ?_
      refine q_iload hC 0 dX0_foundError_20 rfl ?_
      refine q_ldc hC w_425 dX0_foundError_22 ?_
      refine q_ic_ne hC 30 dX0_foundError_24 rfl ?_ ?_
      · refine q_aload_n hC 1 dX0_foundError_30 rfl rfl ?_
        refine q_iload hC 0 dX0_foundError_31 rfl ?_
        refine q_iload_n hC 3 dX0_foundError_33 rfl rfl ?_
        refine q_cVV hC hnt (stk := []) (as := [.int v4, .int x2]) sX0_insert (ci := 0) (by decide) rfl nX0_insert rfl w_431 w_433 w_434 w_149 w_432 (Nat.le_of_ble_eq_true rfl) dX0_foundError_34 rfl ?_
        refine q_iincA hC (loc' := [(2, .int (x2 + 1)), (4, .int v4), (0, .ref x0), (1, .int x1), (3, .int x3)]) 3 1 dX0_foundError_37 rfl rfl (Nat.le_of_ble_eq_true rfl) rfl ?_
        refine q_iincA hC (loc' := [(3, .int (x3 + 1)), (2, .int (x2 + 1)), (4, .int v4), (0, .ref x0), (1, .int x1)]) 4 1 dX0_foundError_40 rfl rfl (Nat.le_of_ble_eq_true rfl) rfl ?_
        refine q_goto hC 4 dX0_foundError_43 rfl ?_
        exact c_sub [3, 4, 1, 0] rfl (hJ 1 [.ref x0, .int x1, .int (x2 + 1), .int (x3 + 1)])
      · refine q_goto hC 40 dX0_foundError_27 rfl ?_
        refine q_iincA hC (loc' := [(3, .int (x3 + 1)), (4, .int v4), (0, .ref x0), (1, .int x1), (2, .int x2)]) 4 1 dX0_foundError_40 rfl rfl (Nat.le_of_ble_eq_true rfl) rfl ?_
        refine q_goto hC 4 dX0_foundError_43 rfl ?_
        exact c_sub [2, 3, 4, 0] rfl (hJ 1 [.ref x0, .int x1, .int x2, .int (x3 + 1)])
  · exact c_no
theorem sX0_foundError : Snd yX0_foundError (.code yX0_foundError cX0_foundError 5 (some .int)) rmX0_foundError SX0_foundError := by
  refine Snd.of lX0_foundError (by decide +kernel) (fun _ => rfl) ?_
  intro Γ hC hnt hnm J hJ L a
  match L with
  | 0 => exact pX0_foundError_0 hC hnt J hJ a
  | 1 => exact pX0_foundError_1 hC hnt J hJ a
  | L + 2 => exact c_no
/-! SpiritWall$Edges.sightRise(I)I -/
theorem dX0_sightRise_0 : decode cX0_sightRise 0 = .ok (.aload_n 0, 1) := by decide +kernel
theorem dX0_sightRise_1 : decode cX0_sightRise 1 = .ok (.getfield 22, 3) := by decide +kernel
theorem dX0_sightRise_4 : decode cX0_sightRise 4 = .ok (.iload_n 1, 1) := by decide +kernel
theorem dX0_sightRise_5 : decode cX0_sightRise 5 = .ok (.invokestatic 102, 3) := by decide +kernel
theorem dX0_sightRise_8 : decode cX0_sightRise 8 = .ok (.aload_n 0, 1) := by decide +kernel
theorem dX0_sightRise_9 : decode cX0_sightRise 9 = .ok (.getfield 25, 3) := by decide +kernel
theorem dX0_sightRise_12 : decode cX0_sightRise 12 = .ok (.iload_n 1, 1) := by decide +kernel
theorem dX0_sightRise_13 : decode cX0_sightRise 13 = .ok (.invokestatic 102, 3) := by decide +kernel
theorem dX0_sightRise_16 : decode cX0_sightRise 16 = .ok (.aload_n 0, 1) := by decide +kernel
theorem dX0_sightRise_17 : decode cX0_sightRise 17 = .ok (.getfield 9, 3) := by decide +kernel
theorem dX0_sightRise_20 : decode cX0_sightRise 20 = .ok (.imul, 1) := by decide +kernel
theorem dX0_sightRise_21 : decode cX0_sightRise 21 = .ok (.isub, 1) := by decide +kernel
theorem dX0_sightRise_22 : decode cX0_sightRise 22 = .ok (.ireturn, 1) := by decide +kernel
def rmX0_sightRise : Room := rmk 7 0 0 171
theorem nX0_sightRise : nameOk yX0_sightRise 1 = true := by decide +kernel
def bX0_sightRise_0 (J : JT) : List Value → Sem
  | [.ref x0, .int x1] =>
    gR 0 5 x0 fun r1 =>
    cI SX10_cell [.ref r1, .int x1] fun v2 =>
    gR 0 6 x0 fun r3 =>
    cI SX10_cell [.ref r3, .int x1] fun v4 =>
    gI 0 2 x0 fun v5 =>
    rI (v2 - (v4 * v5))
  | _ => no
def bX0_sightRise (J : JT) : JT := fun L a => match L with
  | 0 => bX0_sightRise_0 J a
  | _ => no
def SX0_sightRise : ST := mk 2 bX0_sightRise
def lX0_sightRise (L : Nat) (a : List Value) : Nat × Nat × Nat × List (Nat × Value) × List Value := match L with
  | 0 => (0, 0, 0, lv_args 0 a, [])
  | _ => (0, 0, 0, [], [])
theorem pX0_sightRise_0 {Γ : CT} (hC : Ctx Γ "SpiritWall$Edges" cX0_sightRise 2 (some .int) rmX0_sightRise) (hnt : NT Γ) (J : JT) (hJ : ∀ L a, Cor Γ 2 (lX0_sightRise L a).1 (lX0_sightRise L a).2.1 (lX0_sightRise L a).2.2.1 (lX0_sightRise L a).2.2.2.1 (lX0_sightRise L a).2.2.2.2 (J L a)) (a : List Value) : Cor Γ 2 0 0 0 (lv_args 0 a) [] (bX0_sightRise_0 J a) := by
  unfold bX0_sightRise_0
  split
  · rename_i x0 x1
    refine c_sub [0, 1] rfl (loc' := [(0, .ref x0), (1, .int x1)]) ?_
    refine q_aload_n hC 0 dX0_sightRise_0 rfl rfl ?_
    refine q_getR hC (by decide) (by decide) rfl w_87 dX0_sightRise_1 (fun r1 => ?_)
    refine q_iload_n hC 1 dX0_sightRise_4 rfl rfl ?_
    refine q_cNI hC hnt (stk := []) (as := [.ref r1, .int x1]) sX10_cell nX10_cell rfl w_352 w_202 w_27 w_201 (Nat.le_of_ble_eq_true rfl) dX0_sightRise_5 rfl (fun v2 => ?_)
    refine q_aload_n hC 0 dX0_sightRise_8 rfl rfl ?_
    refine q_getR hC (by decide) (by decide) rfl w_88 dX0_sightRise_9 (fun r3 => ?_)
    refine q_iload_n hC 1 dX0_sightRise_12 rfl rfl ?_
    refine q_cNI hC hnt (stk := [.int v2]) (as := [.ref r3, .int x1]) sX10_cell nX10_cell rfl w_352 w_202 w_27 w_201 (Nat.le_of_ble_eq_true rfl) dX0_sightRise_13 rfl (fun v4 => ?_)
    refine q_aload_n hC 0 dX0_sightRise_16 rfl rfl ?_
    refine q_getI hC (by decide) (by decide) rfl w_84 dX0_sightRise_17 (fun v5 => ?_)
    refine q_imul hC dX0_sightRise_20 ?_
    refine q_isub hC dX0_sightRise_21 ?_
    exact q_iret hC dX0_sightRise_22 (Nat.le_of_ble_eq_true rfl) (Nat.le_of_ble_eq_true rfl)
  · exact c_no
theorem sX0_sightRise : Snd yX0_sightRise (.code yX0_sightRise cX0_sightRise 2 (some .int)) rmX0_sightRise SX0_sightRise := by
  refine Snd.of lX0_sightRise (by decide +kernel) (fun _ => rfl) ?_
  intro Γ hC hnt hnm J hJ L a
  match L with
  | 0 => exact pX0_sightRise_0 hC hnt J hJ a
  | L + 1 => exact c_no
