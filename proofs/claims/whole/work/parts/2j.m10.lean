/-! SpiritWall.level()I -/
theorem dX10_level_0 : decode cX10_level 0 = .ok (.aload_n 0, 1) := by decide +kernel
theorem dX10_level_1 : decode cX10_level 1 = .ok (.getfield 44, 3) := by decide +kernel
theorem dX10_level_4 : decode cX10_level 4 = .ok (.aload_n 0, 1) := by decide +kernel
theorem dX10_level_5 : decode cX10_level 5 = .ok (.getfield 31, 3) := by decide +kernel
theorem dX10_level_8 : decode cX10_level 8 = .ok (.invokevirtual 366, 3) := by decide +kernel
theorem dX10_level_11 : decode cX10_level 11 = .ok (.aload_n 0, 1) := by decide +kernel
theorem dX10_level_12 : decode cX10_level 12 = .ok (.getfield 62, 3) := by decide +kernel
theorem dX10_level_15 : decode cX10_level 15 = .ok (.aload_n 0, 1) := by decide +kernel
theorem dX10_level_16 : decode cX10_level 16 = .ok (.getfield 31, 3) := by decide +kernel
theorem dX10_level_19 : decode cX10_level 19 = .ok (.invokevirtual 164, 3) := by decide +kernel
theorem dX10_level_22 : decode cX10_level 22 = .ok (.aload_n 0, 1) := by decide +kernel
theorem dX10_level_23 : decode cX10_level 23 = .ok (.getfield 87, 3) := by decide +kernel
theorem dX10_level_26 : decode cX10_level 26 = .ok (.aload_n 0, 1) := by decide +kernel
theorem dX10_level_27 : decode cX10_level 27 = .ok (.getfield 31, 3) := by decide +kernel
theorem dX10_level_30 : decode cX10_level 30 = .ok (.invokevirtual 353, 3) := by decide +kernel
theorem dX10_level_33 : decode cX10_level 33 = .ok (.aload_n 0, 1) := by decide +kernel
theorem dX10_level_34 : decode cX10_level 34 = .ok (.getfield 31, 3) := by decide +kernel
theorem dX10_level_37 : decode cX10_level 37 = .ok (.invokevirtual 154, 3) := by decide +kernel
theorem dX10_level_40 : decode cX10_level 40 = .ok (.ireturn, 1) := by decide +kernel
def rmX10_level : Room := rmk 12 0 0 290
theorem nX10_level : nameOk yX10_level 0 = true := by decide +kernel
def bX10_level_0 (J : JT) : List Value → Sem
  | [.ref x0] =>
    gR 10 6 x0 fun r1 =>
    gR 10 3 x0 fun r2 =>
    ob 3 r1 (cV SX3_keep [.ref r1, .ref r2] <|
    gR 10 8 x0 fun r3 =>
    gR 10 3 x0 fun r4 =>
    ob 0 r3 (cV SX0_measure [.ref r3, .ref r4] <|
    gR 10 11 x0 fun r5 =>
    gR 10 3 x0 fun r6 =>
    ob 2 r5 (cV SX2_levelOut [.ref r5, .ref r6] <|
    gR 10 3 x0 fun r7 =>
    ob 6 r7 (cI SX6_markedHeights [.ref r7] fun v8 =>
    rI v8))))
  | _ => no
def bX10_level (J : JT) : JT := fun L a => match L with
  | 0 => bX10_level_0 J a
  | _ => no
def SX10_level : ST := mk 1 bX10_level
def lX10_level (L : Nat) (a : List Value) : Nat × Nat × Nat × List (Nat × Value) × List Value := match L with
  | 0 => (0, 0, 0, lv_args 0 a, [])
  | _ => (0, 0, 0, [], [])
theorem pX10_level_0 {Γ : CT} (hC : Ctx Γ "SpiritWall" cX10_level 1 (some .int) rmX10_level) (hnt : NT Γ) (J : JT) (hJ : ∀ L a, Cor Γ 1 (lX10_level L a).1 (lX10_level L a).2.1 (lX10_level L a).2.2.1 (lX10_level L a).2.2.2.1 (lX10_level L a).2.2.2.2 (J L a)) (a : List Value) : Cor Γ 1 0 0 0 (lv_args 0 a) [] (bX10_level_0 J a) := by
  unfold bX10_level_0
  split
  · rename_i x0
    refine c_sub [0] rfl (loc' := [(0, .ref x0)]) ?_
    refine q_aload_n hC 0 dX10_level_0 rfl rfl ?_
    refine q_getR hC (by decide) (by decide) rfl w_140 dX10_level_1 (fun r1 => ?_)
    refine q_aload_n hC 0 dX10_level_4 rfl rfl ?_
    refine q_getR hC (by decide) (by decide) rfl w_133 dX10_level_5 (fun r2 => ?_)
    refine q_cVV hC hnt (stk := []) (as := [.ref r2]) sX3_keep (ci := 3) (by decide) rfl nX3_keep rfl w_767 w_769 w_770 w_139 w_768 (Nat.le_of_ble_eq_true rfl) dX10_level_8 rfl ?_
    refine q_aload_n hC 0 dX10_level_11 rfl rfl ?_
    refine q_getR hC (by decide) (by decide) rfl w_150 dX10_level_12 (fun r3 => ?_)
    refine q_aload_n hC 0 dX10_level_15 rfl rfl ?_
    refine q_getR hC (by decide) (by decide) rfl w_133 dX10_level_16 (fun r4 => ?_)
    refine q_cVV hC hnt (stk := []) (as := [.ref r4]) sX0_measure (ci := 0) (by decide) rfl nX0_measure rfl w_536 w_538 w_539 w_149 w_537 (Nat.le_of_ble_eq_true rfl) dX10_level_19 rfl ?_
    refine q_aload_n hC 0 dX10_level_22 rfl rfl ?_
    refine q_getR hC (by decide) (by decide) rfl w_165 dX10_level_23 (fun r5 => ?_)
    refine q_aload_n hC 0 dX10_level_26 rfl rfl ?_
    refine q_getR hC (by decide) (by decide) rfl w_133 dX10_level_27 (fun r6 => ?_)
    refine q_cVV hC hnt (stk := []) (as := [.ref r6]) sX2_levelOut (ci := 2) (by decide) rfl nX2_levelOut rfl w_754 w_756 w_757 w_164 w_755 (Nat.le_of_ble_eq_true rfl) dX10_level_30 rfl ?_
    refine q_aload_n hC 0 dX10_level_33 rfl rfl ?_
    refine q_getR hC (by decide) (by decide) rfl w_133 dX10_level_34 (fun r7 => ?_)
    refine q_cVI hC hnt (stk := []) (as := []) sX6_markedHeights (ci := 6) (by decide) rfl nX6_markedHeights rfl w_569 w_571 w_572 w_35 w_570 (Nat.le_of_ble_eq_true rfl) dX10_level_37 rfl (fun v8 => ?_)
    exact q_iret hC dX10_level_40 (Nat.le_of_ble_eq_true rfl) (Nat.le_of_ble_eq_true rfl)
  · exact c_no
theorem sX10_level : Snd yX10_level (.code yX10_level cX10_level 1 (some .int)) rmX10_level SX10_level := by
  refine Snd.of lX10_level (by decide +kernel) (fun _ => rfl) ?_
  intro Γ hC hnt hnm J hJ L a
  match L with
  | 0 => exact pX10_level_0 hC hnt J hJ a
  | L + 1 => exact c_no
/-! SpiritWall.relax(I)I -/
theorem dX10_relax_0 : decode cX10_relax 0 = .ok (.iload_n 1, 1) := by decide +kernel
theorem dX10_relax_1 : decode cX10_relax 1 = .ok (.iconst 1, 1) := by decide +kernel
theorem dX10_relax_2 : decode cX10_relax 2 = .ok (.bipush 50, 2) := by decide +kernel
theorem dX10_relax_4 : decode cX10_relax 4 = .ok (.invokestatic 260, 3) := by decide +kernel
theorem dX10_relax_7 : decode cX10_relax 7 = .ok (.aload_n 0, 1) := by decide +kernel
theorem dX10_relax_8 : decode cX10_relax 8 = .ok (.getfield 44, 3) := by decide +kernel
theorem dX10_relax_11 : decode cX10_relax 11 = .ok (.aload_n 0, 1) := by decide +kernel
theorem dX10_relax_12 : decode cX10_relax 12 = .ok (.getfield 31, 3) := by decide +kernel
theorem dX10_relax_15 : decode cX10_relax 15 = .ok (.invokevirtual 366, 3) := by decide +kernel
theorem dX10_relax_18 : decode cX10_relax 18 = .ok (.aload_n 0, 1) := by decide +kernel
theorem dX10_relax_19 : decode cX10_relax 19 = .ok (.getfield 62, 3) := by decide +kernel
theorem dX10_relax_22 : decode cX10_relax 22 = .ok (.aload_n 0, 1) := by decide +kernel
theorem dX10_relax_23 : decode cX10_relax 23 = .ok (.getfield 31, 3) := by decide +kernel
theorem dX10_relax_26 : decode cX10_relax 26 = .ok (.invokevirtual 164, 3) := by decide +kernel
theorem dX10_relax_29 : decode cX10_relax 29 = .ok (.aload_n 0, 1) := by decide +kernel
theorem dX10_relax_30 : decode cX10_relax 30 = .ok (.getfield 87, 3) := by decide +kernel
theorem dX10_relax_33 : decode cX10_relax 33 = .ok (.aload_n 0, 1) := by decide +kernel
theorem dX10_relax_34 : decode cX10_relax 34 = .ok (.getfield 31, 3) := by decide +kernel
theorem dX10_relax_37 : decode cX10_relax 37 = .ok (.iload_n 1, 1) := by decide +kernel
theorem dX10_relax_38 : decode cX10_relax 38 = .ok (.invokevirtual 356, 3) := by decide +kernel
theorem dX10_relax_41 : decode cX10_relax 41 = .ok (.ireturn, 1) := by decide +kernel
def rmX10_relax : Room := rmk 13 1 6 315
theorem nX10_relax : nameOk yX10_relax 1 = true := by decide +kernel
def bX10_relax_0 (J : JT) : List Value → Sem
  | [.ref x0, .int x1] =>
    cV SX10_needRange [.int x1, .int 1, .int 50] <|
    gR 10 6 x0 fun r1 =>
    gR 10 3 x0 fun r2 =>
    ob 3 r1 (cV SX3_keep [.ref r1, .ref r2] <|
    gR 10 8 x0 fun r3 =>
    gR 10 3 x0 fun r4 =>
    ob 0 r3 (cV SX0_measure [.ref r3, .ref r4] <|
    gR 10 11 x0 fun r5 =>
    gR 10 3 x0 fun r6 =>
    ob 2 r5 (cI SX2_relaxBy [.ref r5, .ref r6, .int x1] fun v7 =>
    rI v7)))
  | _ => no
def bX10_relax (J : JT) : JT := fun L a => match L with
  | 0 => bX10_relax_0 J a
  | _ => no
def SX10_relax : ST := mk 2 bX10_relax
def lX10_relax (L : Nat) (a : List Value) : Nat × Nat × Nat × List (Nat × Value) × List Value := match L with
  | 0 => (0, 0, 0, lv_args 0 a, [])
  | _ => (0, 0, 0, [], [])
theorem pX10_relax_0 {Γ : CT} (hC : Ctx Γ "SpiritWall" cX10_relax 2 (some .int) rmX10_relax) (hnt : NT Γ) (J : JT) (hJ : ∀ L a, Cor Γ 2 (lX10_relax L a).1 (lX10_relax L a).2.1 (lX10_relax L a).2.2.1 (lX10_relax L a).2.2.2.1 (lX10_relax L a).2.2.2.2 (J L a)) (a : List Value) : Cor Γ 2 0 0 0 (lv_args 0 a) [] (bX10_relax_0 J a) := by
  unfold bX10_relax_0
  split
  · rename_i x0 x1
    refine c_sub [0, 1] rfl (loc' := [(0, .ref x0), (1, .int x1)]) ?_
    refine q_iload_n hC 1 dX10_relax_0 rfl rfl ?_
    refine q_iconst hC dX10_relax_1 rfl ?_
    refine q_bipush hC (v := 50) dX10_relax_2 rfl ?_
    refine q_cSV hC hnt (stk := []) (as := [.int x1, .int 1, .int 50]) sX10_needRange nX10_needRange rfl w_643 w_645 w_27 w_644 (Nat.le_of_ble_eq_true rfl) dX10_relax_4 rfl ?_
    refine q_aload_n hC 0 dX10_relax_7 rfl rfl ?_
    refine q_getR hC (by decide) (by decide) rfl w_140 dX10_relax_8 (fun r1 => ?_)
    refine q_aload_n hC 0 dX10_relax_11 rfl rfl ?_
    refine q_getR hC (by decide) (by decide) rfl w_133 dX10_relax_12 (fun r2 => ?_)
    refine q_cVV hC hnt (stk := []) (as := [.ref r2]) sX3_keep (ci := 3) (by decide) rfl nX3_keep rfl w_767 w_769 w_770 w_139 w_768 (Nat.le_of_ble_eq_true rfl) dX10_relax_15 rfl ?_
    refine q_aload_n hC 0 dX10_relax_18 rfl rfl ?_
    refine q_getR hC (by decide) (by decide) rfl w_150 dX10_relax_19 (fun r3 => ?_)
    refine q_aload_n hC 0 dX10_relax_22 rfl rfl ?_
    refine q_getR hC (by decide) (by decide) rfl w_133 dX10_relax_23 (fun r4 => ?_)
    refine q_cVV hC hnt (stk := []) (as := [.ref r4]) sX0_measure (ci := 0) (by decide) rfl nX0_measure rfl w_536 w_538 w_539 w_149 w_537 (Nat.le_of_ble_eq_true rfl) dX10_relax_26 rfl ?_
    refine q_aload_n hC 0 dX10_relax_29 rfl rfl ?_
    refine q_getR hC (by decide) (by decide) rfl w_165 dX10_relax_30 (fun r5 => ?_)
    refine q_aload_n hC 0 dX10_relax_33 rfl rfl ?_
    refine q_getR hC (by decide) (by decide) rfl w_133 dX10_relax_34 (fun r6 => ?_)
    refine q_iload_n hC 1 dX10_relax_37 rfl rfl ?_
    refine q_cVI hC hnt (stk := []) (as := [.ref r6, .int x1]) sX2_relaxBy (ci := 2) (by decide) rfl nX2_relaxBy rfl w_758 w_760 w_761 w_164 w_759 (Nat.le_of_ble_eq_true rfl) dX10_relax_38 rfl (fun v7 => ?_)
    exact q_iret hC dX10_relax_41 (Nat.le_of_ble_eq_true rfl) (Nat.le_of_ble_eq_true rfl)
  · exact c_no
theorem sX10_relax : Snd yX10_relax (.code yX10_relax cX10_relax 2 (some .int)) rmX10_relax SX10_relax := by
  refine Snd.of lX10_relax (by decide +kernel) (fun _ => rfl) ?_
  intro Γ hC hnt hnm J hJ L a
  match L with
  | 0 => exact pX10_relax_0 hC hnt J hJ a
  | L + 1 => exact c_no
/-! SpiritWall.tellError(I)I -/
theorem dX10_tellError_0 : decode cX10_tellError 0 = .ok (.iload_n 1, 1) := by decide +kernel
theorem dX10_tellError_1 : decode cX10_tellError 1 = .ok (.sipush (-999), 3) := by decide +kernel
theorem dX10_tellError_4 : decode cX10_tellError 4 = .ok (.sipush 999, 3) := by decide +kernel
theorem dX10_tellError_7 : decode cX10_tellError 7 = .ok (.invokestatic 260, 3) := by decide +kernel
theorem dX10_tellError_10 : decode cX10_tellError 10 = .ok (.aload_n 0, 1) := by decide +kernel
theorem dX10_tellError_11 : decode cX10_tellError 11 = .ok (.getfield 44, 3) := by decide +kernel
theorem dX10_tellError_14 : decode cX10_tellError 14 = .ok (.aload_n 0, 1) := by decide +kernel
theorem dX10_tellError_15 : decode cX10_tellError 15 = .ok (.getfield 31, 3) := by decide +kernel
theorem dX10_tellError_18 : decode cX10_tellError 18 = .ok (.invokevirtual 366, 3) := by decide +kernel
theorem dX10_tellError_21 : decode cX10_tellError 21 = .ok (.aload_n 0, 1) := by decide +kernel
theorem dX10_tellError_22 : decode cX10_tellError 22 = .ok (.invokevirtual 387, 3) := by decide +kernel
theorem dX10_tellError_25 : decode cX10_tellError 25 = .ok (.istore_n 2, 1) := by decide +kernel
theorem dX10_tellError_26 : decode cX10_tellError 26 = .ok (.aload_n 0, 1) := by decide +kernel
theorem dX10_tellError_27 : decode cX10_tellError 27 = .ok (.getfield 31, 3) := by decide +kernel
theorem dX10_tellError_30 : decode cX10_tellError 30 = .ok (.iconst 1, 1) := by decide +kernel
theorem dX10_tellError_31 : decode cX10_tellError 31 = .ok (.putfield 157, 3) := by decide +kernel
theorem dX10_tellError_34 : decode cX10_tellError 34 = .ok (.aload_n 0, 1) := by decide +kernel
theorem dX10_tellError_35 : decode cX10_tellError 35 = .ok (.getfield 31, 3) := by decide +kernel
theorem dX10_tellError_38 : decode cX10_tellError 38 = .ok (.iload_n 1, 1) := by decide +kernel
theorem dX10_tellError_39 : decode cX10_tellError 39 = .ok (.putfield 390, 3) := by decide +kernel
theorem dX10_tellError_42 : decode cX10_tellError 42 = .ok (.iload_n 2, 1) := by decide +kernel
theorem dX10_tellError_43 : decode cX10_tellError 43 = .ok (.ireturn, 1) := by decide +kernel
def rmX10_tellError : Room := rmk 13 1 6 310
theorem nX10_tellError : nameOk yX10_tellError 1 = true := by decide +kernel
def bX10_tellError_0 (J : JT) : List Value → Sem
  | [.ref x0, .int x1] =>
    cV SX10_needRange [.int x1, .int (-999), .int 999] <|
    gR 10 6 x0 fun r1 =>
    gR 10 3 x0 fun r2 =>
    ob 3 r1 (cV SX3_keep [.ref r1, .ref r2] <|
    ob 10 x0 (cI SX10_levelError [.ref x0] fun v3 =>
    gR 10 3 x0 fun r4 =>
    pZ 6 1 r4 1 <|
    gR 10 3 x0 fun r5 =>
    pI 6 2 r5 x1 <|
    rI v3))
  | _ => no
def bX10_tellError (J : JT) : JT := fun L a => match L with
  | 0 => bX10_tellError_0 J a
  | _ => no
def SX10_tellError : ST := mk 3 bX10_tellError
def lX10_tellError (L : Nat) (a : List Value) : Nat × Nat × Nat × List (Nat × Value) × List Value := match L with
  | 0 => (0, 0, 0, lv_args 0 a, [])
  | _ => (0, 0, 0, [], [])
theorem pX10_tellError_0 {Γ : CT} (hC : Ctx Γ "SpiritWall" cX10_tellError 3 (some .int) rmX10_tellError) (hnt : NT Γ) (J : JT) (hJ : ∀ L a, Cor Γ 3 (lX10_tellError L a).1 (lX10_tellError L a).2.1 (lX10_tellError L a).2.2.1 (lX10_tellError L a).2.2.2.1 (lX10_tellError L a).2.2.2.2 (J L a)) (a : List Value) : Cor Γ 3 0 0 0 (lv_args 0 a) [] (bX10_tellError_0 J a) := by
  unfold bX10_tellError_0
  split
  · rename_i x0 x1
    refine c_sub [0, 1] rfl (loc' := [(0, .ref x0), (1, .int x1)]) ?_
    refine q_iload_n hC 1 dX10_tellError_0 rfl rfl ?_
    refine q_sipush hC (v := (-999)) dX10_tellError_1 rfl ?_
    refine q_sipush hC (v := 999) dX10_tellError_4 rfl ?_
    refine q_cSV hC hnt (stk := []) (as := [.int x1, .int (-999), .int 999]) sX10_needRange nX10_needRange rfl w_643 w_645 w_27 w_644 (Nat.le_of_ble_eq_true rfl) dX10_tellError_7 rfl ?_
    refine q_aload_n hC 0 dX10_tellError_10 rfl rfl ?_
    refine q_getR hC (by decide) (by decide) rfl w_140 dX10_tellError_11 (fun r1 => ?_)
    refine q_aload_n hC 0 dX10_tellError_14 rfl rfl ?_
    refine q_getR hC (by decide) (by decide) rfl w_133 dX10_tellError_15 (fun r2 => ?_)
    refine q_cVV hC hnt (stk := []) (as := [.ref r2]) sX3_keep (ci := 3) (by decide) rfl nX3_keep rfl w_767 w_769 w_770 w_139 w_768 (Nat.le_of_ble_eq_true rfl) dX10_tellError_18 rfl ?_
    refine q_aload_n hC 0 dX10_tellError_21 rfl rfl ?_
    refine q_cVI hC hnt (stk := []) (as := []) sX10_levelError (ci := 10) (by decide) rfl nX10_levelError rfl w_775 w_777 w_778 w_27 w_776 (Nat.le_of_ble_eq_true rfl) dX10_tellError_22 rfl (fun v3 => ?_)
    refine q_istore_nA hC (loc' := [(2, .int v3), (0, .ref x0), (1, .int x1)]) dX10_tellError_25 rfl (Nat.le_of_ble_eq_true rfl) rfl ?_
    refine q_aload_n hC 1 dX10_tellError_26 rfl rfl ?_
    refine q_getR hC (by decide) (by decide) rfl w_133 dX10_tellError_27 (fun r4 => ?_)
    refine q_iconst hC dX10_tellError_30 rfl ?_
    refine q_putZ hC (by decide) (by decide) rfl rfl w_573 dX10_tellError_31 ?_
    refine q_aload_n hC 1 dX10_tellError_34 rfl rfl ?_
    refine q_getR hC (by decide) (by decide) rfl w_133 dX10_tellError_35 (fun r5 => ?_)
    refine q_iload_n hC 2 dX10_tellError_38 rfl rfl ?_
    refine q_putI hC (by decide) (by decide) rfl rfl w_779 dX10_tellError_39 ?_
    refine q_iload_n hC 0 dX10_tellError_42 rfl rfl ?_
    exact q_iret hC dX10_tellError_43 (Nat.le_of_ble_eq_true rfl) (Nat.le_of_ble_eq_true rfl)
  · exact c_no
theorem sX10_tellError : Snd yX10_tellError (.code yX10_tellError cX10_tellError 3 (some .int)) rmX10_tellError SX10_tellError := by
  refine Snd.of lX10_tellError (by decide +kernel) (fun _ => rfl) ?_
  intro Γ hC hnt hnm J hJ L a
  match L with
  | 0 => exact pX10_tellError_0 hC hnt J hJ a
  | L + 1 => exact c_no
/-! SpiritWall.findError()I -/
theorem dX10_findError_0 : decode cX10_findError 0 = .ok (.aload_n 0, 1) := by decide +kernel
theorem dX10_findError_1 : decode cX10_findError 1 = .ok (.getfield 44, 3) := by decide +kernel
theorem dX10_findError_4 : decode cX10_findError 4 = .ok (.aload_n 0, 1) := by decide +kernel
theorem dX10_findError_5 : decode cX10_findError 5 = .ok (.getfield 31, 3) := by decide +kernel
theorem dX10_findError_8 : decode cX10_findError 8 = .ok (.invokevirtual 366, 3) := by decide +kernel
theorem dX10_findError_11 : decode cX10_findError 11 = .ok (.aload_n 0, 1) := by decide +kernel
theorem dX10_findError_12 : decode cX10_findError 12 = .ok (.getfield 31, 3) := by decide +kernel
theorem dX10_findError_15 : decode cX10_findError 15 = .ok (.iconst 0, 1) := by decide +kernel
theorem dX10_findError_16 : decode cX10_findError 16 = .ok (.putfield 157, 3) := by decide +kernel
theorem dX10_findError_19 : decode cX10_findError 19 = .ok (.aload_n 0, 1) := by decide +kernel
theorem dX10_findError_20 : decode cX10_findError 20 = .ok (.invokevirtual 387, 3) := by decide +kernel
theorem dX10_findError_23 : decode cX10_findError 23 = .ok (.ireturn, 1) := by decide +kernel
def rmX10_findError : Room := rmk 13 0 0 310
theorem nX10_findError : nameOk yX10_findError 0 = true := by decide +kernel
def bX10_findError_0 (J : JT) : List Value → Sem
  | [.ref x0] =>
    gR 10 6 x0 fun r1 =>
    gR 10 3 x0 fun r2 =>
    ob 3 r1 (cV SX3_keep [.ref r1, .ref r2] <|
    gR 10 3 x0 fun r3 =>
    pZ 6 1 r3 0 <|
    ob 10 x0 (cI SX10_levelError [.ref x0] fun v4 =>
    rI v4))
  | _ => no
def bX10_findError (J : JT) : JT := fun L a => match L with
  | 0 => bX10_findError_0 J a
  | _ => no
def SX10_findError : ST := mk 1 bX10_findError
def lX10_findError (L : Nat) (a : List Value) : Nat × Nat × Nat × List (Nat × Value) × List Value := match L with
  | 0 => (0, 0, 0, lv_args 0 a, [])
  | _ => (0, 0, 0, [], [])
theorem pX10_findError_0 {Γ : CT} (hC : Ctx Γ "SpiritWall" cX10_findError 1 (some .int) rmX10_findError) (hnt : NT Γ) (J : JT) (hJ : ∀ L a, Cor Γ 1 (lX10_findError L a).1 (lX10_findError L a).2.1 (lX10_findError L a).2.2.1 (lX10_findError L a).2.2.2.1 (lX10_findError L a).2.2.2.2 (J L a)) (a : List Value) : Cor Γ 1 0 0 0 (lv_args 0 a) [] (bX10_findError_0 J a) := by
  unfold bX10_findError_0
  split
  · rename_i x0
    refine c_sub [0] rfl (loc' := [(0, .ref x0)]) ?_
    refine q_aload_n hC 0 dX10_findError_0 rfl rfl ?_
    refine q_getR hC (by decide) (by decide) rfl w_140 dX10_findError_1 (fun r1 => ?_)
    refine q_aload_n hC 0 dX10_findError_4 rfl rfl ?_
    refine q_getR hC (by decide) (by decide) rfl w_133 dX10_findError_5 (fun r2 => ?_)
    refine q_cVV hC hnt (stk := []) (as := [.ref r2]) sX3_keep (ci := 3) (by decide) rfl nX3_keep rfl w_767 w_769 w_770 w_139 w_768 (Nat.le_of_ble_eq_true rfl) dX10_findError_8 rfl ?_
    refine q_aload_n hC 0 dX10_findError_11 rfl rfl ?_
    refine q_getR hC (by decide) (by decide) rfl w_133 dX10_findError_12 (fun r3 => ?_)
    refine q_iconst hC dX10_findError_15 rfl ?_
    refine q_putZ hC (by decide) (by decide) rfl rfl w_573 dX10_findError_16 ?_
    refine q_aload_n hC 0 dX10_findError_19 rfl rfl ?_
    refine q_cVI hC hnt (stk := []) (as := []) sX10_levelError (ci := 10) (by decide) rfl nX10_levelError rfl w_775 w_777 w_778 w_27 w_776 (Nat.le_of_ble_eq_true rfl) dX10_findError_20 rfl (fun v4 => ?_)
    exact q_iret hC dX10_findError_23 (Nat.le_of_ble_eq_true rfl) (Nat.le_of_ble_eq_true rfl)
  · exact c_no
theorem sX10_findError : Snd yX10_findError (.code yX10_findError cX10_findError 1 (some .int)) rmX10_findError SX10_findError := by
  refine Snd.of lX10_findError (by decide +kernel) (fun _ => rfl) ?_
  intro Γ hC hnt hnm J hJ L a
  match L with
  | 0 => exact pX10_findError_0 hC hnt J hJ a
  | L + 1 => exact c_no
/-! SpiritWall.set(II)I -/
theorem dX10_set_0 : decode cX10_set 0 = .ok (.iload_n 1, 1) := by decide +kernel
theorem dX10_set_1 : decode cX10_set 1 = .ok (.iconst 0, 1) := by decide +kernel
theorem dX10_set_2 : decode cX10_set 2 = .ok (.iconst 3, 1) := by decide +kernel
theorem dX10_set_3 : decode cX10_set 3 = .ok (.invokestatic 260, 3) := by decide +kernel
theorem dX10_set_6 : decode cX10_set 6 = .ok (.iload_n 1, 1) := by decide +kernel
theorem dX10_set_7 : decode cX10_set 7 = .ok (.iload_n 2, 1) := by decide +kernel
theorem dX10_set_8 : decode cX10_set 8 = .ok (.invokestatic 347, 3) := by decide +kernel
theorem dX10_set_11 : decode cX10_set 11 = .ok (.aload_n 0, 1) := by decide +kernel
theorem dX10_set_12 : decode cX10_set 12 = .ok (.getfield 44, 3) := by decide +kernel
theorem dX10_set_15 : decode cX10_set 15 = .ok (.aload_n 0, 1) := by decide +kernel
theorem dX10_set_16 : decode cX10_set 16 = .ok (.getfield 31, 3) := by decide +kernel
theorem dX10_set_19 : decode cX10_set 19 = .ok (.invokevirtual 366, 3) := by decide +kernel
theorem dX10_set_22 : decode cX10_set 22 = .ok (.aload_n 0, 1) := by decide +kernel
theorem dX10_set_23 : decode cX10_set 23 = .ok (.getfield 31, 3) := by decide +kernel
theorem dX10_set_26 : decode cX10_set 26 = .ok (.iload_n 1, 1) := by decide +kernel
theorem dX10_set_27 : decode cX10_set 27 = .ok (.invokevirtual 160, 3) := by decide +kernel
theorem dX10_set_30 : decode cX10_set 30 = .ok (.istore_n 3, 1) := by decide +kernel
theorem dX10_set_31 : decode cX10_set 31 = .ok (.aload_n 0, 1) := by decide +kernel
theorem dX10_set_32 : decode cX10_set 32 = .ok (.getfield 31, 3) := by decide +kernel
theorem dX10_set_35 : decode cX10_set 35 = .ok (.getfield 393, 3) := by decide +kernel
theorem dX10_set_38 : decode cX10_set 38 = .ok (.iload_n 1, 1) := by decide +kernel
theorem dX10_set_39 : decode cX10_set 39 = .ok (.iload_n 2, 1) := by decide +kernel
theorem dX10_set_40 : decode cX10_set 40 = .ok (.invokestatic 373, 3) := by decide +kernel
theorem dX10_set_43 : decode cX10_set 43 = .ok (.iload_n 3, 1) := by decide +kernel
theorem dX10_set_44 : decode cX10_set 44 = .ok (.ireturn, 1) := by decide +kernel
def rmX10_set : Room := rmk 9 2 12 215
theorem nX10_set : nameOk yX10_set 2 = true := by decide +kernel
def bX10_set_0 (J : JT) : List Value → Sem
  | [.ref x0, .int x1, .int x2] =>
    cV SX10_needRange [.int x1, .int 0, .int 3] <|
    cV SX10_needSettingRange [.int x1, .int x2] <|
    gR 10 6 x0 fun r1 =>
    gR 10 3 x0 fun r2 =>
    ob 3 r1 (cV SX3_keep [.ref r1, .ref r2] <|
    gR 10 3 x0 fun r3 =>
    ob 6 r3 (cI SX6_settingOf [.ref r3, .int x1] fun v4 =>
    gR 10 3 x0 fun r5 =>
    gR 6 0 r5 fun r6 =>
    cV SX10_put [.ref r6, .int x1, .int x2] <|
    rI v4))
  | _ => no
def bX10_set (J : JT) : JT := fun L a => match L with
  | 0 => bX10_set_0 J a
  | _ => no
def SX10_set : ST := mk 4 bX10_set
def lX10_set (L : Nat) (a : List Value) : Nat × Nat × Nat × List (Nat × Value) × List Value := match L with
  | 0 => (0, 0, 0, lv_args 0 a, [])
  | _ => (0, 0, 0, [], [])
theorem pX10_set_0 {Γ : CT} (hC : Ctx Γ "SpiritWall" cX10_set 4 (some .int) rmX10_set) (hnt : NT Γ) (J : JT) (hJ : ∀ L a, Cor Γ 4 (lX10_set L a).1 (lX10_set L a).2.1 (lX10_set L a).2.2.1 (lX10_set L a).2.2.2.1 (lX10_set L a).2.2.2.2 (J L a)) (a : List Value) : Cor Γ 4 0 0 0 (lv_args 0 a) [] (bX10_set_0 J a) := by
  unfold bX10_set_0
  split
  · rename_i x0 x1 x2
    refine c_sub [0, 1, 2] rfl (loc' := [(0, .ref x0), (1, .int x1), (2, .int x2)]) ?_
    refine q_iload_n hC 1 dX10_set_0 rfl rfl ?_
    refine q_iconst hC dX10_set_1 rfl ?_
    refine q_iconst hC dX10_set_2 rfl ?_
    refine q_cSV hC hnt (stk := []) (as := [.int x1, .int 0, .int 3]) sX10_needRange nX10_needRange rfl w_643 w_645 w_27 w_644 (Nat.le_of_ble_eq_true rfl) dX10_set_3 rfl ?_
    refine q_iload_n hC 1 dX10_set_6 rfl rfl ?_
    refine q_iload_n hC 2 dX10_set_7 rfl rfl ?_
    refine q_cSV hC hnt (stk := []) (as := [.int x1, .int x2]) sX10_needSettingRange nX10_needSettingRange rfl w_725 w_727 w_27 w_726 (Nat.le_of_ble_eq_true rfl) dX10_set_8 rfl ?_
    refine q_aload_n hC 0 dX10_set_11 rfl rfl ?_
    refine q_getR hC (by decide) (by decide) rfl w_140 dX10_set_12 (fun r1 => ?_)
    refine q_aload_n hC 0 dX10_set_15 rfl rfl ?_
    refine q_getR hC (by decide) (by decide) rfl w_133 dX10_set_16 (fun r2 => ?_)
    refine q_cVV hC hnt (stk := []) (as := [.ref r2]) sX3_keep (ci := 3) (by decide) rfl nX3_keep rfl w_767 w_769 w_770 w_139 w_768 (Nat.le_of_ble_eq_true rfl) dX10_set_19 rfl ?_
    refine q_aload_n hC 0 dX10_set_22 rfl rfl ?_
    refine q_getR hC (by decide) (by decide) rfl w_133 dX10_set_23 (fun r3 => ?_)
    refine q_iload_n hC 1 dX10_set_26 rfl rfl ?_
    refine q_cVI hC hnt (stk := []) (as := [.int x1]) sX6_settingOf (ci := 6) (by decide) rfl nX6_settingOf rfl w_544 w_355 w_356 w_35 w_354 (Nat.le_of_ble_eq_true rfl) dX10_set_27 rfl (fun v4 => ?_)
    refine q_istore_nA hC (loc' := [(3, .int v4), (0, .ref x0), (1, .int x1), (2, .int x2)]) dX10_set_30 rfl (Nat.le_of_ble_eq_true rfl) rfl ?_
    refine q_aload_n hC 1 dX10_set_31 rfl rfl ?_
    refine q_getR hC (by decide) (by decide) rfl w_133 dX10_set_32 (fun r5 => ?_)
    refine q_getR hC (by decide) (by decide) rfl w_780 dX10_set_35 (fun r6 => ?_)
    refine q_iload_n hC 2 dX10_set_38 rfl rfl ?_
    refine q_iload_n hC 3 dX10_set_39 rfl rfl ?_
    refine q_cSV hC hnt (stk := []) (as := [.ref r6, .int x1, .int x2]) sX10_put nX10_put rfl w_409 w_187 w_27 w_186 (Nat.le_of_ble_eq_true rfl) dX10_set_40 rfl ?_
    refine q_iload_n hC 0 dX10_set_43 rfl rfl ?_
    exact q_iret hC dX10_set_44 (Nat.le_of_ble_eq_true rfl) (Nat.le_of_ble_eq_true rfl)
  · exact c_no
theorem sX10_set : Snd yX10_set (.code yX10_set cX10_set 4 (some .int)) rmX10_set SX10_set := by
  refine Snd.of lX10_set (by decide +kernel) (fun _ => rfl) ?_
  intro Γ hC hnt hnm J hJ L a
  match L with
  | 0 => exact pX10_set_0 hC hnt J hJ a
  | L + 1 => exact c_no
/-! SpiritWall$History.takeBack(LSpiritWall$State;)V -/
theorem dX3_takeBack_0 : decode cX3_takeBack 0 = .ok (.aload_n 0, 1) := by decide +kernel
theorem dX3_takeBack_1 : decode cX3_takeBack 1 = .ok (.aload_n 0, 1) := by decide +kernel
theorem dX3_takeBack_2 : decode cX3_takeBack 2 = .ok (.getfield 21, 3) := by decide +kernel
theorem dX3_takeBack_5 : decode cX3_takeBack 5 = .ok (.invokevirtual 25, 3) := by decide +kernel
theorem dX3_takeBack_8 : decode cX3_takeBack 8 = .ok (.astore_n 2, 1) := by decide +kernel
theorem dX3_takeBack_9 : decode cX3_takeBack 9 = .ok (.aload_n 2, 1) := by decide +kernel
theorem dX3_takeBack_10 : decode cX3_takeBack 10 = .ok (.ifnull 8, 3) := by decide +kernel
theorem dX3_takeBack_13 : decode cX3_takeBack 13 = .ok (.aload_n 1, 1) := by decide +kernel
theorem dX3_takeBack_14 : decode cX3_takeBack 14 = .ok (.aload_n 2, 1) := by decide +kernel
theorem dX3_takeBack_15 : decode cX3_takeBack 15 = .ok (.invokevirtual 29, 3) := by decide +kernel
theorem dX3_takeBack_18 : decode cX3_takeBack 18 = .ok (.aload_n 0, 1) := by decide +kernel
theorem dX3_takeBack_19 : decode cX3_takeBack 19 = .ok (.aload_n 0, 1) := by decide +kernel
theorem dX3_takeBack_20 : decode cX3_takeBack 20 = .ok (.getfield 21, 3) := by decide +kernel
theorem dX3_takeBack_23 : decode cX3_takeBack 23 = .ok (.ifCond .le 12, 3) := by decide +kernel
theorem dX3_takeBack_26 : decode cX3_takeBack 26 = .ok (.aload_n 0, 1) := by decide +kernel
theorem dX3_takeBack_27 : decode cX3_takeBack 27 = .ok (.getfield 21, 3) := by decide +kernel
theorem dX3_takeBack_30 : decode cX3_takeBack 30 = .ok (.iconst 1, 1) := by decide +kernel
theorem dX3_takeBack_31 : decode cX3_takeBack 31 = .ok (.isub, 1) := by decide +kernel
theorem dX3_takeBack_32 : decode cX3_takeBack 32 = .ok (.goto 5, 3) := by decide +kernel
theorem dX3_takeBack_35 : decode cX3_takeBack 35 = .ok (.bipush 9, 2) := by decide +kernel
theorem dX3_takeBack_37 : decode cX3_takeBack 37 = .ok (.putfield 21, 3) := by decide +kernel
theorem dX3_takeBack_40 : decode cX3_takeBack 40 = .ok (.aload_n 0, 1) := by decide +kernel
theorem dX3_takeBack_41 : decode cX3_takeBack 41 = .ok (.dup, 1) := by decide +kernel
theorem dX3_takeBack_42 : decode cX3_takeBack 42 = .ok (.getfield 17, 3) := by decide +kernel
theorem dX3_takeBack_45 : decode cX3_takeBack 45 = .ok (.iconst 1, 1) := by decide +kernel
theorem dX3_takeBack_46 : decode cX3_takeBack 46 = .ok (.isub, 1) := by decide +kernel
theorem dX3_takeBack_47 : decode cX3_takeBack 47 = .ok (.putfield 17, 3) := by decide +kernel
theorem dX3_takeBack_50 : decode cX3_takeBack 50 = .ok (.return_, 1) := by decide +kernel
def rmX3_takeBack : Room := rmk 8 0 0 193
theorem nX3_takeBack : nameOk yX3_takeBack 1 = true := by decide +kernel
def bX3_takeBack_0 (J : JT) : List Value → Sem
  | [.ref x0, .ref x1] =>
    gI 3 2 x0 fun v1 =>
    ob 3 x0 (cO SX3_stateAt [.ref x0, .int v1] (fun r2 =>
    ob 6 x1 (cV SX6_copyFrom [.ref x1, .ref r2] <|
    J 1 [.ref x0]))
    (J 1 [.ref x0]))
  | _ => no
def bX3_takeBack_1 (J : JT) : List Value → Sem
  | [.ref x0] =>
    gI 3 2 x0 fun v1 =>
    br (v1 ≤ 0)
    (pI 3 2 x0 9 <|
    gI 3 1 x0 fun v2 =>
    pI 3 1 x0 (v2 - 1) <|
    rV)
    (gI 3 2 x0 fun v3 =>
    pI 3 2 x0 (v3 - 1) <|
    gI 3 1 x0 fun v4 =>
    pI 3 1 x0 (v4 - 1) <|
    rV)
  | _ => no
def bX3_takeBack (J : JT) : JT := fun L a => match L with
  | 0 => bX3_takeBack_0 J a
  | 1 => bX3_takeBack_1 J a
  | _ => no
def SX3_takeBack : ST := mk 3 bX3_takeBack
def lX3_takeBack (L : Nat) (a : List Value) : Nat × Nat × Nat × List (Nat × Value) × List Value := match L with
  | 0 => (0, 0, 0, lv_args 0 a, [])
  | 1 => (0, 0, 18, List.zip [0] a, [])
  | _ => (0, 0, 0, [], [])
theorem pX3_takeBack_0 {Γ : CT} (hC : Ctx Γ "SpiritWall$History" cX3_takeBack 3 none rmX3_takeBack) (hnt : NT Γ) (J : JT) (hJ : ∀ L a, Cor Γ 3 (lX3_takeBack L a).1 (lX3_takeBack L a).2.1 (lX3_takeBack L a).2.2.1 (lX3_takeBack L a).2.2.2.1 (lX3_takeBack L a).2.2.2.2 (J L a)) (a : List Value) : Cor Γ 3 0 0 0 (lv_args 0 a) [] (bX3_takeBack_0 J a) := by
  unfold bX3_takeBack_0
  split
  · rename_i x0 x1
    refine c_sub [0, 1] rfl (loc' := [(0, .ref x0), (1, .ref x1)]) ?_
    refine q_aload_n hC 0 dX3_takeBack_0 rfl rfl ?_
    refine q_aload_n hC 0 dX3_takeBack_1 rfl rfl ?_
    refine q_getI hC (by decide) (by decide) rfl w_31 dX3_takeBack_2 (fun v1 => ?_)
    refine q_cVO hC hnt (stk := []) (as := [.int v1]) sX3_stateAt (ci := 3) (by decide) rfl nX3_stateAt rfl w_762 w_764 w_765 w_139 w_763 (Nat.le_of_ble_eq_true rfl) dX3_takeBack_5 rfl (fun r2 => ?_) ?_
    · refine q_astore_n hC (loc' := [(2, .ref r2), (0, .ref x0), (1, .ref x1)]) dX3_takeBack_8 rfl (Nat.le_of_ble_eq_true rfl) rfl ?_
      refine q_aload_n hC 0 dX3_takeBack_9 rfl rfl ?_
      refine q_ifnull hC dX3_takeBack_10 ?_
      refine q_aload_n hC 2 dX3_takeBack_13 rfl rfl ?_
      refine q_aload_n hC 0 dX3_takeBack_14 rfl rfl ?_
      refine q_cVV hC hnt (stk := []) (as := [.ref r2]) sX6_copyFrom (ci := 6) (by decide) rfl nX6_copyFrom rfl w_766 w_343 w_344 w_35 w_342 (Nat.le_of_ble_eq_true rfl) dX3_takeBack_15 rfl ?_
      exact c_sub [1] rfl (hJ 1 [.ref x0])
    · refine q_astore_nN hC (loc' := [(2, .null), (0, .ref x0), (1, .ref x1)]) dX3_takeBack_8 rfl (Nat.le_of_ble_eq_true rfl) rfl ?_
      refine q_aload_nN hC 0 dX3_takeBack_9 rfl rfl ?_
      refine q_ifnullN hC 18 dX3_takeBack_10 rfl ?_
      exact c_sub [1] rfl (hJ 1 [.ref x0])
  · exact c_no
theorem pX3_takeBack_1 {Γ : CT} (hC : Ctx Γ "SpiritWall$History" cX3_takeBack 3 none rmX3_takeBack) (hnt : NT Γ) (J : JT) (hJ : ∀ L a, Cor Γ 3 (lX3_takeBack L a).1 (lX3_takeBack L a).2.1 (lX3_takeBack L a).2.2.1 (lX3_takeBack L a).2.2.2.1 (lX3_takeBack L a).2.2.2.2 (J L a)) (a : List Value) : Cor Γ 3 0 0 18 (List.zip [0] a) [] (bX3_takeBack_1 J a) := by
  unfold bX3_takeBack_1
  split
  · rename_i x0
    refine c_sub [0] rfl (loc' := [(0, .ref x0)]) ?_
    refine q_aload_n hC 0 dX3_takeBack_18 rfl rfl ?_
    refine q_aload_n hC 0 dX3_takeBack_19 rfl rfl ?_
    refine q_getI hC (by decide) (by decide) rfl w_31 dX3_takeBack_20 (fun v1 => ?_)
    refine q_if_le hC 35 dX3_takeBack_23 rfl ?_ ?_
    · refine q_bipush hC (v := 9) dX3_takeBack_35 rfl ?_
      refine q_putI hC (by decide) (by decide) rfl rfl w_31 dX3_takeBack_37 ?_
      refine q_aload_n hC 0 dX3_takeBack_40 rfl rfl ?_
      refine q_dup hC dX3_takeBack_41 ?_
      refine q_getI hC (by decide) (by decide) rfl w_30 dX3_takeBack_42 (fun v2 => ?_)
      refine q_iconst hC dX3_takeBack_45 rfl ?_
      refine q_isub hC dX3_takeBack_46 ?_
      refine q_putI hC (by decide) (by decide) rfl rfl w_30 dX3_takeBack_47 ?_
      exact q_vret hC dX3_takeBack_50 (Nat.le_of_ble_eq_true rfl) (Nat.le_of_ble_eq_true rfl)
    · refine q_aload_n hC 0 dX3_takeBack_26 rfl rfl ?_
      refine q_getI hC (by decide) (by decide) rfl w_31 dX3_takeBack_27 (fun v3 => ?_)
      refine q_iconst hC dX3_takeBack_30 rfl ?_
      refine q_isub hC dX3_takeBack_31 ?_
      refine q_goto hC 37 dX3_takeBack_32 rfl ?_
      refine q_putI hC (by decide) (by decide) rfl rfl w_31 dX3_takeBack_37 ?_
      refine q_aload_n hC 0 dX3_takeBack_40 rfl rfl ?_
      refine q_dup hC dX3_takeBack_41 ?_
      refine q_getI hC (by decide) (by decide) rfl w_30 dX3_takeBack_42 (fun v4 => ?_)
      refine q_iconst hC dX3_takeBack_45 rfl ?_
      refine q_isub hC dX3_takeBack_46 ?_
      refine q_putI hC (by decide) (by decide) rfl rfl w_30 dX3_takeBack_47 ?_
      exact q_vret hC dX3_takeBack_50 (Nat.le_of_ble_eq_true rfl) (Nat.le_of_ble_eq_true rfl)
  · exact c_no
theorem sX3_takeBack : Snd yX3_takeBack (.code yX3_takeBack cX3_takeBack 3 none) rmX3_takeBack SX3_takeBack := by
  refine Snd.of lX3_takeBack (by decide +kernel) (fun _ => rfl) ?_
  intro Γ hC hnt hnm J hJ L a
  match L with
  | 0 => exact pX3_takeBack_0 hC hnt J hJ a
  | 1 => exact pX3_takeBack_1 hC hnt J hJ a
  | L + 2 => exact c_no
/-! SpiritWall.undo()I -/
theorem dX10_undo_0 : decode cX10_undo 0 = .ok (.aload_n 0, 1) := by decide +kernel
theorem dX10_undo_1 : decode cX10_undo 1 = .ok (.getfield 44, 3) := by decide +kernel
theorem dX10_undo_4 : decode cX10_undo 4 = .ok (.getfield 129, 3) := by decide +kernel
theorem dX10_undo_7 : decode cX10_undo 7 = .ok (.ifCond .ne 14, 3) := by decide +kernel
theorem dX10_undo_10 : decode cX10_undo 10 = .ok (.new 361, 3) := by decide +kernel
theorem dX10_undo_13 : decode cX10_undo 13 = .ok (.dup, 1) := by decide +kernel
theorem dX10_undo_14 : decode cX10_undo 14 = .ok (.ldc_w 396, 3) := by decide +kernel
theorem dX10_undo_17 : decode cX10_undo 17 = .ok (.invokespecial 365, 3) := by decide +kernel
theorem dX10_undo_20 : decode cX10_undo 20 = .ok (.athrow, 1) := by decide +kernel
theorem dX10_undo_21 : decode cX10_undo 21 = .ok (.aload_n 0, 1) := by decide +kernel
theorem dX10_undo_22 : decode cX10_undo 22 = .ok (.getfield 44, 3) := by decide +kernel
theorem dX10_undo_25 : decode cX10_undo 25 = .ok (.aload_n 0, 1) := by decide +kernel
theorem dX10_undo_26 : decode cX10_undo 26 = .ok (.getfield 31, 3) := by decide +kernel
theorem dX10_undo_29 : decode cX10_undo 29 = .ok (.invokevirtual 398, 3) := by decide +kernel
theorem dX10_undo_32 : decode cX10_undo 32 = .ok (.aload_n 0, 1) := by decide +kernel
theorem dX10_undo_33 : decode cX10_undo 33 = .ok (.getfield 44, 3) := by decide +kernel
theorem dX10_undo_36 : decode cX10_undo 36 = .ok (.getfield 129, 3) := by decide +kernel
theorem dX10_undo_39 : decode cX10_undo 39 = .ok (.ireturn, 1) := by decide +kernel
def rmX10_undo : Room := rmk 9 1 6 215
theorem nX10_undo : nameOk yX10_undo 0 = true := by decide +kernel
def bX10_undo_0 (J : JT) : List Value → Sem
  | [.ref x0] =>
    gR 10 6 x0 fun r1 =>
    gI 3 1 r1 fun v2 =>
    br (v2 = 0)
    (thr 3)
    (gR 10 6 x0 fun r3 =>
    gR 10 3 x0 fun r4 =>
    ob 3 r3 (cV SX3_takeBack [.ref r3, .ref r4] <|
    gR 10 6 x0 fun r5 =>
    gI 3 1 r5 fun v6 =>
    rI v6))
  | _ => no
def bX10_undo (J : JT) : JT := fun L a => match L with
  | 0 => bX10_undo_0 J a
  | _ => no
def SX10_undo : ST := mk 1 bX10_undo
def lX10_undo (L : Nat) (a : List Value) : Nat × Nat × Nat × List (Nat × Value) × List Value := match L with
  | 0 => (0, 0, 0, lv_args 0 a, [])
  | _ => (0, 0, 0, [], [])
theorem pX10_undo_0 {Γ : CT} (hC : Ctx Γ "SpiritWall" cX10_undo 1 (some .int) rmX10_undo) (hnt : NT Γ) (J : JT) (hJ : ∀ L a, Cor Γ 1 (lX10_undo L a).1 (lX10_undo L a).2.1 (lX10_undo L a).2.2.1 (lX10_undo L a).2.2.2.1 (lX10_undo L a).2.2.2.2 (J L a)) (a : List Value) : Cor Γ 1 0 0 0 (lv_args 0 a) [] (bX10_undo_0 J a) := by
  unfold bX10_undo_0
  split
  · rename_i x0
    refine c_sub [0] rfl (loc' := [(0, .ref x0)]) ?_
    refine q_aload_n hC 0 dX10_undo_0 rfl rfl ?_
    refine q_getR hC (by decide) (by decide) rfl w_140 dX10_undo_1 (fun r1 => ?_)
    refine q_getI hC (by decide) (by decide) rfl w_345 dX10_undo_4 (fun v2 => ?_)
    refine q_if_ne hC 21 dX10_undo_7 rfl ?_ ?_
    · refine q_aload_n hC 0 dX10_undo_21 rfl rfl ?_
      refine q_getR hC (by decide) (by decide) rfl w_140 dX10_undo_22 (fun r3 => ?_)
      refine q_aload_n hC 0 dX10_undo_25 rfl rfl ?_
      refine q_getR hC (by decide) (by decide) rfl w_133 dX10_undo_26 (fun r4 => ?_)
      refine q_cVV hC hnt (stk := []) (as := [.ref r4]) sX3_takeBack (ci := 3) (by decide) rfl nX3_takeBack rfl w_781 w_783 w_784 w_139 w_782 (Nat.le_of_ble_eq_true rfl) dX10_undo_29 rfl ?_
      refine q_aload_n hC 0 dX10_undo_32 rfl rfl ?_
      refine q_getR hC (by decide) (by decide) rfl w_140 dX10_undo_33 (fun r5 => ?_)
      refine q_getI hC (by decide) (by decide) rfl w_345 dX10_undo_36 (fun v6 => ?_)
      exact q_iret hC dX10_undo_39 (Nat.le_of_ble_eq_true rfl) (Nat.le_of_ble_eq_true rfl)
    · exact q_throwW hC (by decide) (by decide) (by decide +kernel) (i := 30) (tx := "nothing can be undone") (by decide +kernel) hnt dX10_undo_10 dX10_undo_13 dX10_undo_14 dX10_undo_17 dX10_undo_20 (Nat.le_of_ble_eq_true rfl) (Nat.le_of_ble_eq_true rfl) ⟨(Nat.le_of_ble_eq_true rfl), (Nat.le_of_ble_eq_true rfl)⟩
  · exact c_no
theorem sX10_undo : Snd yX10_undo (.code yX10_undo cX10_undo 1 (some .int)) rmX10_undo SX10_undo := by
  refine Snd.of lX10_undo (by decide +kernel) (fun _ => rfl) ?_
  intro Γ hC hnt hnm J hJ L a
  match L with
  | 0 => exact pX10_undo_0 hC hnt J hJ a
  | L + 1 => exact c_no
/-! SpiritWall$Text.addWord(I)V -/
theorem dX7_addWord_0 : decode cX7_addWord 0 = .ok (.iconst 5, 1) := by decide +kernel
theorem dX7_addWord_1 : decode cX7_addWord 1 = .ok (.istore_n 2, 1) := by decide +kernel
theorem dX7_addWord_2 : decode cX7_addWord 2 = .ok (.iload_n 2, 1) := by decide +kernel
theorem dX7_addWord_3 : decode cX7_addWord 3 = .ok (.ifCond .lt 32, 3) := by decide +kernel
theorem dX7_addWord_6 : decode cX7_addWord 6 = .ok (.iload_n 1, 1) := by decide +kernel
theorem dX7_addWord_7 : decode cX7_addWord 7 = .ok (.iconst 5, 1) := by decide +kernel
theorem dX7_addWord_8 : decode cX7_addWord 8 = .ok (.iload_n 2, 1) := by decide +kernel
theorem dX7_addWord_9 : decode cX7_addWord 9 = .ok (.imul, 1) := by decide +kernel
theorem dX7_addWord_10 : decode cX7_addWord 10 = .ok (.iushr, 1) := by decide +kernel
theorem dX7_addWord_11 : decode cX7_addWord 11 = .ok (.bipush 31, 2) := by decide +kernel
theorem dX7_addWord_13 : decode cX7_addWord 13 = .ok (.iand, 1) := by decide +kernel
theorem dX7_addWord_14 : decode cX7_addWord 14 = .ok (.istore_n 3, 1) := by decide +kernel
theorem dX7_addWord_15 : decode cX7_addWord 15 = .ok (.iload_n 3, 1) := by decide +kernel
theorem dX7_addWord_16 : decode cX7_addWord 16 = .ok (.ifCond .le 13, 3) := by decide +kernel
theorem dX7_addWord_19 : decode cX7_addWord 19 = .ok (.aload_n 0, 1) := by decide +kernel
theorem dX7_addWord_20 : decode cX7_addWord 20 = .ok (.bipush 97, 2) := by decide +kernel
theorem dX7_addWord_22 : decode cX7_addWord 22 = .ok (.iload_n 3, 1) := by decide +kernel
theorem dX7_addWord_23 : decode cX7_addWord 23 = .ok (.iadd, 1) := by decide +kernel
theorem dX7_addWord_24 : decode cX7_addWord 24 = .ok (.iconst 1, 1) := by decide +kernel
theorem dX7_addWord_25 : decode cX7_addWord 25 = .ok (.isub, 1) := by decide +kernel
theorem dX7_addWord_26 : decode cX7_addWord 26 = .ok (.invokevirtual 27, 3) := by decide +kernel
theorem dX7_addWord_29 : decode cX7_addWord 29 = .ok (.iinc 2 (-1), 3) := by decide +kernel
theorem dX7_addWord_32 : decode cX7_addWord 32 = .ok (.goto (-30), 3) := by decide +kernel
theorem dX7_addWord_35 : decode cX7_addWord 35 = .ok (.return_, 1) := by decide +kernel
def rmX7_addWord : Room := rmk 8 0 0 193
theorem nX7_addWord : nameOk yX7_addWord 1 = true := by decide +kernel
def bX7_addWord_0 (J : JT) : List Value → Sem
  | [.ref x0, .int x1] =>
    J 1 [.ref x0, .int x1, .int 5]
  | _ => no
def bX7_addWord_1 (J : JT) : List Value → Sem
  | [.ref x0, .int x1, .int x2] =>
    br (x2 < 0)
    (rV)
    (lI ((((Int32.toUInt32 (x1)) >>> ((Int32.toUInt32 ((5 * x2))) &&& Int32.toUInt32 31)).toInt32) &&& 31) fun y3_1 =>
    br (y3_1 ≤ 0)
    (J 1 [.ref x0, .int x1, .int (x2 + (-1))])
    (ob 7 x0 (cV SX7_add [.ref x0, .int ((97 + y3_1) - 1)] <|
    J 1 [.ref x0, .int x1, .int (x2 + (-1))])))
  | _ => no
def bX7_addWord (J : JT) : JT := fun L a => match L with
  | 0 => bX7_addWord_0 J a
  | 1 => bX7_addWord_1 J a
  | _ => no
def SX7_addWord : ST := mk 4 bX7_addWord
def lX7_addWord (L : Nat) (a : List Value) : Nat × Nat × Nat × List (Nat × Value) × List Value := match L with
  | 0 => (0, 0, 0, lv_args 0 a, [])
  | 1 => (0, 0, 2, List.zip [0, 1, 2] a, [])
  | _ => (0, 0, 0, [], [])
theorem pX7_addWord_0 {Γ : CT} (hC : Ctx Γ "SpiritWall$Text" cX7_addWord 4 none rmX7_addWord) (hnt : NT Γ) (J : JT) (hJ : ∀ L a, Cor Γ 4 (lX7_addWord L a).1 (lX7_addWord L a).2.1 (lX7_addWord L a).2.2.1 (lX7_addWord L a).2.2.2.1 (lX7_addWord L a).2.2.2.2 (J L a)) (a : List Value) : Cor Γ 4 0 0 0 (lv_args 0 a) [] (bX7_addWord_0 J a) := by
  unfold bX7_addWord_0
  split
  · rename_i x0 x1
    refine c_sub [0, 1] rfl (loc' := [(0, .ref x0), (1, .int x1)]) ?_
    refine q_iconst hC dX7_addWord_0 rfl ?_
    refine q_istore_nA hC (loc' := [(2, .int 5), (0, .ref x0), (1, .int x1)]) dX7_addWord_1 rfl (Nat.le_of_ble_eq_true rfl) rfl ?_
    exact c_sub [1, 2, 0] rfl (hJ 1 [.ref x0, .int x1, .int 5])
  · exact c_no
theorem pX7_addWord_1 {Γ : CT} (hC : Ctx Γ "SpiritWall$Text" cX7_addWord 4 none rmX7_addWord) (hnt : NT Γ) (J : JT) (hJ : ∀ L a, Cor Γ 4 (lX7_addWord L a).1 (lX7_addWord L a).2.1 (lX7_addWord L a).2.2.1 (lX7_addWord L a).2.2.2.1 (lX7_addWord L a).2.2.2.2 (J L a)) (a : List Value) : Cor Γ 4 0 0 2 (List.zip [0, 1, 2] a) [] (bX7_addWord_1 J a) := by
  unfold bX7_addWord_1
  split
  · rename_i x0 x1 x2
    refine c_sub [0, 1, 2] rfl (loc' := [(0, .ref x0), (1, .int x1), (2, .int x2)]) ?_
    refine q_iload_n hC 2 dX7_addWord_2 rfl rfl ?_
    refine q_if_lt hC 35 dX7_addWord_3 rfl ?_ ?_
    · exact q_vret hC dX7_addWord_35 (Nat.le_of_ble_eq_true rfl) (Nat.le_of_ble_eq_true rfl)
    · refine q_iload_n hC 1 dX7_addWord_6 rfl rfl ?_
      refine q_iconst hC dX7_addWord_7 rfl ?_
      refine q_iload_n hC 2 dX7_addWord_8 rfl rfl ?_
      refine q_imul hC dX7_addWord_9 ?_
      refine q_iushr hC dX7_addWord_10 ?_
      refine q_bipush hC (v := 31) dX7_addWord_11 rfl ?_
      refine q_iand hC dX7_addWord_13 ?_
      refine q_istore_n hC (fun y3_1 => [(3, .int y3_1), (0, .ref x0), (1, .int x1), (2, .int x2)]) dX7_addWord_14 rfl (Nat.le_of_ble_eq_true rfl) (fun _ => rfl) (fun y3_1 => ?_)
      refine q_iload_n hC 0 dX7_addWord_15 rfl rfl ?_
      refine q_if_le hC 29 dX7_addWord_16 rfl ?_ ?_
      · refine q_iincA hC (loc' := [(2, .int (x2 + (-1))), (3, .int y3_1), (0, .ref x0), (1, .int x1)]) 3 (-1) dX7_addWord_29 rfl rfl (Nat.le_of_ble_eq_true rfl) rfl ?_
        refine q_goto hC 2 dX7_addWord_32 rfl ?_
        exact c_sub [2, 3, 0] rfl (hJ 1 [.ref x0, .int x1, .int (x2 + (-1))])
      · refine q_aload_n hC 1 dX7_addWord_19 rfl rfl ?_
        refine q_bipush hC (v := 97) dX7_addWord_20 rfl ?_
        refine q_iload_n hC 0 dX7_addWord_22 rfl rfl ?_
        refine q_iadd hC dX7_addWord_23 ?_
        refine q_iconst hC dX7_addWord_24 rfl ?_
        refine q_isub hC dX7_addWord_25 ?_
        refine q_cVV hC hnt (stk := []) (as := [.int ((97 + y3_1) - 1)]) sX7_add (ci := 7) (by decide) rfl nX7_add rfl w_188 w_190 w_191 w_127 w_189 (Nat.le_of_ble_eq_true rfl) dX7_addWord_26 rfl ?_
        refine q_iincA hC (loc' := [(2, .int (x2 + (-1))), (3, .int y3_1), (0, .ref x0), (1, .int x1)]) 3 (-1) dX7_addWord_29 rfl rfl (Nat.le_of_ble_eq_true rfl) rfl ?_
        refine q_goto hC 2 dX7_addWord_32 rfl ?_
        exact c_sub [2, 3, 0] rfl (hJ 1 [.ref x0, .int x1, .int (x2 + (-1))])
  · exact c_no
theorem sX7_addWord : Snd yX7_addWord (.code yX7_addWord cX7_addWord 4 none) rmX7_addWord SX7_addWord := by
  refine Snd.of lX7_addWord (by decide +kernel) (fun _ => rfl) ?_
  intro Γ hC hnt hnm J hJ L a
  match L with
  | 0 => exact pX7_addWord_0 hC hnt J hJ a
  | 1 => exact pX7_addWord_1 hC hnt J hJ a
  | L + 2 => exact c_no
/-! SpiritWall$Wall.writeName(ILSpiritWall$Text;)V -/
theorem dX9_writeName_0 : decode cX9_writeName 0 = .ok (.aload_n 2, 1) := by decide +kernel
theorem dX9_writeName_1 : decode cX9_writeName 1 = .ok (.aload_n 0, 1) := by decide +kernel
theorem dX9_writeName_2 : decode cX9_writeName 2 = .ok (.getfield 15, 3) := by decide +kernel
theorem dX9_writeName_5 : decode cX9_writeName 5 = .ok (.iload_n 1, 1) := by decide +kernel
theorem dX9_writeName_6 : decode cX9_writeName 6 = .ok (.invokestatic 30, 3) := by decide +kernel
theorem dX9_writeName_9 : decode cX9_writeName 9 = .ok (.invokevirtual 37, 3) := by decide +kernel
theorem dX9_writeName_12 : decode cX9_writeName 12 = .ok (.return_, 1) := by decide +kernel
def rmX9_writeName : Room := rmk 9 0 0 216
theorem nX9_writeName : nameOk yX9_writeName 2 = true := by decide +kernel
def bX9_writeName_0 (J : JT) : List Value → Sem
  | [.ref x0, .int x1, .ref x2] =>
    gR 9 1 x0 fun r1 =>
    cI SX10_cell [.ref r1, .int x1] fun v2 =>
    ob 7 x2 (cV SX7_addWord [.ref x2, .int v2] <|
    rV)
  | _ => no
def bX9_writeName (J : JT) : JT := fun L a => match L with
  | 0 => bX9_writeName_0 J a
  | _ => no
def SX9_writeName : ST := mk 3 bX9_writeName
def lX9_writeName (L : Nat) (a : List Value) : Nat × Nat × Nat × List (Nat × Value) × List Value := match L with
  | 0 => (0, 0, 0, lv_args 0 a, [])
  | _ => (0, 0, 0, [], [])
theorem pX9_writeName_0 {Γ : CT} (hC : Ctx Γ "SpiritWall$Wall" cX9_writeName 3 none rmX9_writeName) (hnt : NT Γ) (J : JT) (hJ : ∀ L a, Cor Γ 3 (lX9_writeName L a).1 (lX9_writeName L a).2.1 (lX9_writeName L a).2.2.1 (lX9_writeName L a).2.2.2.1 (lX9_writeName L a).2.2.2.2 (J L a)) (a : List Value) : Cor Γ 3 0 0 0 (lv_args 0 a) [] (bX9_writeName_0 J a) := by
  unfold bX9_writeName_0
  split
  · rename_i x0 x1 x2
    refine c_sub [0, 1, 2] rfl (loc' := [(0, .ref x0), (1, .int x1), (2, .ref x2)]) ?_
    refine q_aload_n hC 2 dX9_writeName_0 rfl rfl ?_
    refine q_aload_n hC 0 dX9_writeName_1 rfl rfl ?_
    refine q_getR hC (by decide) (by decide) rfl w_7 dX9_writeName_2 (fun r1 => ?_)
    refine q_iload_n hC 1 dX9_writeName_5 rfl rfl ?_
    refine q_cNI hC hnt (stk := [.ref x2]) (as := [.ref r1, .int x1]) sX10_cell nX10_cell rfl w_233 w_202 w_27 w_201 (Nat.le_of_ble_eq_true rfl) dX9_writeName_6 rfl (fun v2 => ?_)
    refine q_cVV hC hnt (stk := []) (as := [.int v2]) sX7_addWord (ci := 7) (by decide) rfl nX7_addWord rfl w_785 w_787 w_788 w_127 w_786 (Nat.le_of_ble_eq_true rfl) dX9_writeName_9 rfl ?_
    exact q_vret hC dX9_writeName_12 (Nat.le_of_ble_eq_true rfl) (Nat.le_of_ble_eq_true rfl)
  · exact c_no
theorem sX9_writeName : Snd yX9_writeName (.code yX9_writeName cX9_writeName 3 none) rmX9_writeName SX9_writeName := by
  refine Snd.of lX9_writeName (by decide +kernel) (fun _ => rfl) ?_
  intro Γ hC hnt hnm J hJ L a
  match L with
  | 0 => exact pX9_writeName_0 hC hnt J hJ a
  | L + 1 => exact c_no
/-! SpiritWall$Text.addNumber(I)V -/
theorem dX7_addNumber_0 : decode cX7_addNumber 0 = .ok (.iload_n 1, 1) := by decide +kernel
theorem dX7_addNumber_1 : decode cX7_addNumber 1 = .ok (.ifCond .ge 9, 3) := by decide +kernel
theorem dX7_addNumber_4 : decode cX7_addNumber 4 = .ok (.aload_n 0, 1) := by decide +kernel
theorem dX7_addNumber_5 : decode cX7_addNumber 5 = .ok (.bipush 45, 2) := by decide +kernel
theorem dX7_addNumber_7 : decode cX7_addNumber 7 = .ok (.invokevirtual 27, 3) := by decide +kernel
theorem dX7_addNumber_10 : decode cX7_addNumber 10 = .ok (.iload_n 1, 1) := by decide +kernel
theorem dX7_addNumber_11 : decode cX7_addNumber 11 = .ok (.ifCond .ge 9, 3) := by decide +kernel
theorem dX7_addNumber_14 : decode cX7_addNumber 14 = .ok (.iload_n 1, 1) := by decide +kernel
theorem dX7_addNumber_15 : decode cX7_addNumber 15 = .ok (.i2l, 1) := by decide +kernel
theorem dX7_addNumber_16 : decode cX7_addNumber 16 = .ok (.lneg, 1) := by decide +kernel
theorem dX7_addNumber_17 : decode cX7_addNumber 17 = .ok (.goto 5, 3) := by decide +kernel
theorem dX7_addNumber_20 : decode cX7_addNumber 20 = .ok (.iload_n 1, 1) := by decide +kernel
theorem dX7_addNumber_21 : decode cX7_addNumber 21 = .ok (.i2l, 1) := by decide +kernel
theorem dX7_addNumber_22 : decode cX7_addNumber 22 = .ok (.lstore_n 2, 1) := by decide +kernel
theorem dX7_addNumber_23 : decode cX7_addNumber 23 = .ok (.ldc2_w 40, 3) := by decide +kernel
theorem dX7_addNumber_26 : decode cX7_addNumber 26 = .ok (.lstore 4, 2) := by decide +kernel
theorem dX7_addNumber_28 : decode cX7_addNumber 28 = .ok (.iconst 0, 1) := by decide +kernel
theorem dX7_addNumber_29 : decode cX7_addNumber 29 = .ok (.istore 6, 2) := by decide +kernel
theorem dX7_addNumber_31 : decode cX7_addNumber 31 = .ok (.iconst 0, 1) := by decide +kernel
theorem dX7_addNumber_32 : decode cX7_addNumber 32 = .ok (.istore 7, 2) := by decide +kernel
theorem dX7_addNumber_34 : decode cX7_addNumber 34 = .ok (.iload 7, 2) := by decide +kernel
theorem dX7_addNumber_36 : decode cX7_addNumber 36 = .ok (.bipush 10, 2) := by decide +kernel
theorem dX7_addNumber_38 : decode cX7_addNumber 38 = .ok (.if_icmp .ge 73, 3) := by decide +kernel
theorem dX7_addNumber_41 : decode cX7_addNumber 41 = .ok (.lload 4, 2) := by decide +kernel
theorem dX7_addNumber_43 : decode cX7_addNumber 43 = .ok (.lconst 0, 1) := by decide +kernel
theorem dX7_addNumber_44 : decode cX7_addNumber 44 = .ok (.lcmp, 1) := by decide +kernel
theorem dX7_addNumber_45 : decode cX7_addNumber 45 = .ok (.ifCond .le 66, 3) := by decide +kernel
theorem dX7_addNumber_48 : decode cX7_addNumber 48 = .ok (.lload_n 2, 1) := by decide +kernel
theorem dX7_addNumber_49 : decode cX7_addNumber 49 = .ok (.lload 4, 2) := by decide +kernel
theorem dX7_addNumber_51 : decode cX7_addNumber 51 = .ok (.ldiv, 1) := by decide +kernel
theorem dX7_addNumber_52 : decode cX7_addNumber 52 = .ok (.ldc2_w 42, 3) := by decide +kernel
theorem dX7_addNumber_55 : decode cX7_addNumber 55 = .ok (.lrem, 1) := by decide +kernel
theorem dX7_addNumber_56 : decode cX7_addNumber 56 = .ok (.l2i, 1) := by decide +kernel
theorem dX7_addNumber_57 : decode cX7_addNumber 57 = .ok (.istore 8, 2) := by decide +kernel
theorem dX7_addNumber_59 : decode cX7_addNumber 59 = .ok (.iload 6, 2) := by decide +kernel
theorem dX7_addNumber_61 : decode cX7_addNumber 61 = .ok (.ifCond .ne 15, 3) := by decide +kernel
theorem dX7_addNumber_64 : decode cX7_addNumber 64 = .ok (.iload 8, 2) := by decide +kernel
theorem dX7_addNumber_66 : decode cX7_addNumber 66 = .ok (.ifCond .gt 10, 3) := by decide +kernel
theorem dX7_addNumber_69 : decode cX7_addNumber 69 = .ok (.lload 4, 2) := by decide +kernel
theorem dX7_addNumber_71 : decode cX7_addNumber 71 = .ok (.lconst 1, 1) := by decide +kernel
theorem dX7_addNumber_72 : decode cX7_addNumber 72 = .ok (.lcmp, 1) := by decide +kernel
theorem dX7_addNumber_73 : decode cX7_addNumber 73 = .ok (.ifCond .ne 7, 3) := by decide +kernel
theorem dX7_addNumber_76 : decode cX7_addNumber 76 = .ok (.iconst 1, 1) := by decide +kernel
theorem dX7_addNumber_77 : decode cX7_addNumber 77 = .ok (.goto 4, 3) := by decide +kernel
theorem dX7_addNumber_80 : decode cX7_addNumber 80 = .ok (.iconst 0, 1) := by decide +kernel
theorem dX7_addNumber_81 : decode cX7_addNumber 81 = .ok (.istore 6, 2) := by decide +kernel
theorem dX7_addNumber_83 : decode cX7_addNumber 83 = .ok (.iload 6, 2) := by decide +kernel
theorem dX7_addNumber_85 : decode cX7_addNumber 85 = .ok (.ifCond .eq 12, 3) := by decide +kernel
theorem dX7_addNumber_88 : decode cX7_addNumber 88 = .ok (.aload_n 0, 1) := by decide +kernel
theorem dX7_addNumber_89 : decode cX7_addNumber 89 = .ok (.bipush 48, 2) := by decide +kernel
theorem dX7_addNumber_91 : decode cX7_addNumber 91 = .ok (.iload 8, 2) := by decide +kernel
theorem dX7_addNumber_93 : decode cX7_addNumber 93 = .ok (.iadd, 1) := by decide +kernel
theorem dX7_addNumber_94 : decode cX7_addNumber 94 = .ok (.invokevirtual 27, 3) := by decide +kernel
theorem dX7_addNumber_97 : decode cX7_addNumber 97 = .ok (.lload 4, 2) := by decide +kernel
theorem dX7_addNumber_99 : decode cX7_addNumber 99 = .ok (.ldc2_w 42, 3) := by decide +kernel
theorem dX7_addNumber_102 : decode cX7_addNumber 102 = .ok (.ldiv, 1) := by decide +kernel
theorem dX7_addNumber_103 : decode cX7_addNumber 103 = .ok (.lstore 4, 2) := by decide +kernel
theorem dX7_addNumber_105 : decode cX7_addNumber 105 = .ok (.iinc 7 1, 3) := by decide +kernel
theorem dX7_addNumber_108 : decode cX7_addNumber 108 = .ok (.goto (-74), 3) := by decide +kernel
theorem dX7_addNumber_111 : decode cX7_addNumber 111 = .ok (.return_, 1) := by decide +kernel
def rmX7_addNumber : Room := rmk 8 0 0 193
theorem nX7_addNumber : nameOk yX7_addNumber 1 = true := by decide +kernel
def bX7_addNumber_0 (J : JT) : List Value → Sem
  | [.ref x0, .int x1] =>
    br (0 ≤ x1)
    (J 1 [.ref x0, .int x1])
    (ob 7 x0 (cV SX7_add [.ref x0, .int 45] <|
    J 1 [.ref x0, .int x1]))
  | _ => no
def bX7_addNumber_1 (J : JT) : List Value → Sem
  | [.ref x0, .int x1] =>
    br (0 ≤ x1)
    (lJ (x1.toInt64) fun y2_1 =>
    J 2 [.ref x0, .long y2_1, .long 1000000000, .int 0, .int 0])
    (lJ (-(x1.toInt64)) fun y2_2 =>
    J 2 [.ref x0, .long y2_2, .long 1000000000, .int 0, .int 0])
  | _ => no
def bX7_addNumber_2 (J : JT) : List Value → Sem
  | [.ref x0, .long x2, .long x4, .int x6, .int x7] =>
    br ((10 : Int32) ≤ x7)
    (rV)
    (br ((lg_cmp x4 0) ≤ 0)
    (rV)
    (nzl x4 <|
    nzl 10 <|
    lI (((x2 / x4) - (x2 / x4) / 10 * 10).toInt32) fun y8_1 =>
    br (x6 = 0)
    (br (0 < y8_1)
    (J 3 [.ref x0, .long x2, .long x4, .int x7, .int y8_1])
    (br ((lg_cmp x4 1) = 0)
    (J 3 [.ref x0, .long x2, .long x4, .int x7, .int y8_1])
    (br ((0 : Int32) = 0)
    (nzl 10 <|
    lJ (x4 / 10) fun y4_2 =>
    J 2 [.ref x0, .long x2, .long y4_2, .int 0, .int (x7 + 1)])
    (ob 7 x0 (cV SX7_add [.ref x0, .int (48 + y8_1)] <|
    nzl 10 <|
    lJ (x4 / 10) fun y4_3 =>
    J 2 [.ref x0, .long x2, .long y4_3, .int 0, .int (x7 + 1)])))))
    (J 3 [.ref x0, .long x2, .long x4, .int x7, .int y8_1])))
  | _ => no
def bX7_addNumber_3 (J : JT) : List Value → Sem
  | [.ref x0, .long x2, .long x4, .int x7, .int x8] =>
    br ((1 : Int32) = 0)
    (nzl 10 <|
    lJ (x4 / 10) fun y4_1 =>
    J 2 [.ref x0, .long x2, .long y4_1, .int 1, .int (x7 + 1)])
    (ob 7 x0 (cV SX7_add [.ref x0, .int (48 + x8)] <|
    nzl 10 <|
    lJ (x4 / 10) fun y4_2 =>
    J 2 [.ref x0, .long x2, .long y4_2, .int 1, .int (x7 + 1)]))
  | _ => no
def bX7_addNumber (J : JT) : JT := fun L a => match L with
  | 0 => bX7_addNumber_0 J a
  | 1 => bX7_addNumber_1 J a
  | 2 => bX7_addNumber_2 J a
  | 3 => bX7_addNumber_3 J a
  | _ => no
def SX7_addNumber : ST := mk 9 bX7_addNumber
def lX7_addNumber (L : Nat) (a : List Value) : Nat × Nat × Nat × List (Nat × Value) × List Value := match L with
  | 0 => (0, 0, 0, lv_args 0 a, [])
  | 1 => (0, 0, 10, List.zip [0, 1] a, [])
  | 2 => (0, 0, 34, List.zip [0, 2, 4, 6, 7] a, [])
  | 3 => (0, 0, 76, List.zip [0, 2, 4, 7, 8] a, [])
  | _ => (0, 0, 0, [], [])
theorem pX7_addNumber_0 {Γ : CT} (hC : Ctx Γ "SpiritWall$Text" cX7_addNumber 9 none rmX7_addNumber) (hnt : NT Γ) (J : JT) (hJ : ∀ L a, Cor Γ 9 (lX7_addNumber L a).1 (lX7_addNumber L a).2.1 (lX7_addNumber L a).2.2.1 (lX7_addNumber L a).2.2.2.1 (lX7_addNumber L a).2.2.2.2 (J L a)) (a : List Value) : Cor Γ 9 0 0 0 (lv_args 0 a) [] (bX7_addNumber_0 J a) := by
  unfold bX7_addNumber_0
  split
  · rename_i x0 x1
    refine c_sub [0, 1] rfl (loc' := [(0, .ref x0), (1, .int x1)]) ?_
    refine q_iload_n hC 1 dX7_addNumber_0 rfl rfl ?_
    refine q_if_ge hC 10 dX7_addNumber_1 rfl ?_ ?_
    · exact c_sub [0, 1] rfl (hJ 1 [.ref x0, .int x1])
    · refine q_aload_n hC 0 dX7_addNumber_4 rfl rfl ?_
      refine q_bipush hC (v := 45) dX7_addNumber_5 rfl ?_
      refine q_cVV hC hnt (stk := []) (as := [.int 45]) sX7_add (ci := 7) (by decide) rfl nX7_add rfl w_188 w_190 w_191 w_127 w_189 (Nat.le_of_ble_eq_true rfl) dX7_addNumber_7 rfl ?_
      exact c_sub [0, 1] rfl (hJ 1 [.ref x0, .int x1])
  · exact c_no
theorem pX7_addNumber_1 {Γ : CT} (hC : Ctx Γ "SpiritWall$Text" cX7_addNumber 9 none rmX7_addNumber) (hnt : NT Γ) (J : JT) (hJ : ∀ L a, Cor Γ 9 (lX7_addNumber L a).1 (lX7_addNumber L a).2.1 (lX7_addNumber L a).2.2.1 (lX7_addNumber L a).2.2.2.1 (lX7_addNumber L a).2.2.2.2 (J L a)) (a : List Value) : Cor Γ 9 0 0 10 (List.zip [0, 1] a) [] (bX7_addNumber_1 J a) := by
  unfold bX7_addNumber_1
  split
  · rename_i x0 x1
    refine c_sub [0, 1] rfl (loc' := [(0, .ref x0), (1, .int x1)]) ?_
    refine q_iload_n hC 1 dX7_addNumber_10 rfl rfl ?_
    refine q_if_ge hC 20 dX7_addNumber_11 rfl ?_ ?_
    · refine q_iload_n hC 1 dX7_addNumber_20 rfl rfl ?_
      refine q_i2l hC dX7_addNumber_21 ?_
      refine q_lstore_n hC (fun y2_1 => [(2, .long y2_1), (0, .ref x0), (1, .int x1)]) dX7_addNumber_22 rfl (Nat.le_of_ble_eq_true rfl) (fun _ => rfl) (fun y2_1 => ?_)
      refine q_ldc2 hC w_789 dX7_addNumber_23 ?_
      refine q_lstoreA hC (loc' := [(4, .long 1000000000), (2, .long y2_1), (0, .ref x0), (1, .int x1)]) dX7_addNumber_26 (Nat.le_of_ble_eq_true rfl) rfl ?_
      refine q_iconst hC dX7_addNumber_28 rfl ?_
      refine q_istoreA hC (loc' := [(6, .int 0), (4, .long 1000000000), (2, .long y2_1), (0, .ref x0), (1, .int x1)]) dX7_addNumber_29 (Nat.le_of_ble_eq_true rfl) rfl ?_
      refine q_iconst hC dX7_addNumber_31 rfl ?_
      refine q_istoreA hC (loc' := [(7, .int 0), (6, .int 0), (4, .long 1000000000), (2, .long y2_1), (0, .ref x0), (1, .int x1)]) dX7_addNumber_32 (Nat.le_of_ble_eq_true rfl) rfl ?_
      exact c_sub [4, 3, 2, 1, 0] rfl (hJ 2 [.ref x0, .long y2_1, .long 1000000000, .int 0, .int 0])
    · refine q_iload_n hC 1 dX7_addNumber_14 rfl rfl ?_
      refine q_i2l hC dX7_addNumber_15 ?_
      refine q_lneg hC dX7_addNumber_16 ?_
      refine q_goto hC 22 dX7_addNumber_17 rfl ?_
      refine q_lstore_n hC (fun y2_2 => [(2, .long y2_2), (0, .ref x0), (1, .int x1)]) dX7_addNumber_22 rfl (Nat.le_of_ble_eq_true rfl) (fun _ => rfl) (fun y2_2 => ?_)
      refine q_ldc2 hC w_789 dX7_addNumber_23 ?_
      refine q_lstoreA hC (loc' := [(4, .long 1000000000), (2, .long y2_2), (0, .ref x0), (1, .int x1)]) dX7_addNumber_26 (Nat.le_of_ble_eq_true rfl) rfl ?_
      refine q_iconst hC dX7_addNumber_28 rfl ?_
      refine q_istoreA hC (loc' := [(6, .int 0), (4, .long 1000000000), (2, .long y2_2), (0, .ref x0), (1, .int x1)]) dX7_addNumber_29 (Nat.le_of_ble_eq_true rfl) rfl ?_
      refine q_iconst hC dX7_addNumber_31 rfl ?_
      refine q_istoreA hC (loc' := [(7, .int 0), (6, .int 0), (4, .long 1000000000), (2, .long y2_2), (0, .ref x0), (1, .int x1)]) dX7_addNumber_32 (Nat.le_of_ble_eq_true rfl) rfl ?_
      exact c_sub [4, 3, 2, 1, 0] rfl (hJ 2 [.ref x0, .long y2_2, .long 1000000000, .int 0, .int 0])
  · exact c_no
theorem pX7_addNumber_2 {Γ : CT} (hC : Ctx Γ "SpiritWall$Text" cX7_addNumber 9 none rmX7_addNumber) (hnt : NT Γ) (J : JT) (hJ : ∀ L a, Cor Γ 9 (lX7_addNumber L a).1 (lX7_addNumber L a).2.1 (lX7_addNumber L a).2.2.1 (lX7_addNumber L a).2.2.2.1 (lX7_addNumber L a).2.2.2.2 (J L a)) (a : List Value) : Cor Γ 9 0 0 34 (List.zip [0, 2, 4, 6, 7] a) [] (bX7_addNumber_2 J a) := by
  unfold bX7_addNumber_2
  split
  · rename_i x0 x2 x4 x6 x7
    refine c_sub [0, 1, 2, 3, 4] rfl (loc' := [(0, .ref x0), (2, .long x2), (4, .long x4), (6, .int x6), (7, .int x7)]) ?_
    refine q_iload hC 4 dX7_addNumber_34 rfl ?_
    refine q_bipush hC (v := 10) dX7_addNumber_36 rfl ?_
    refine q_ic_ge hC 111 dX7_addNumber_38 rfl ?_ ?_
    · exact q_vret hC dX7_addNumber_111 (Nat.le_of_ble_eq_true rfl) (Nat.le_of_ble_eq_true rfl)
    · refine q_lload hC 2 dX7_addNumber_41 rfl ?_
      refine q_lconst hC (v := 0) dX7_addNumber_43 rfl ?_
      refine q_lcmp hC dX7_addNumber_44 ?_
      refine q_if_le hC 111 dX7_addNumber_45 rfl ?_ ?_
      · exact q_vret hC dX7_addNumber_111 (Nat.le_of_ble_eq_true rfl) (Nat.le_of_ble_eq_true rfl)
      · refine q_lload_n hC 1 dX7_addNumber_48 rfl rfl ?_
        refine q_lload hC 2 dX7_addNumber_49 rfl ?_
        refine q_ldiv hC dX7_addNumber_51 ?_
        refine q_ldc2 hC w_790 dX7_addNumber_52 ?_
        refine q_lrem hC dX7_addNumber_55 ?_
        refine q_l2i hC dX7_addNumber_56 ?_
        refine q_istore hC (fun y8_1 => [(8, .int y8_1), (0, .ref x0), (2, .long x2), (4, .long x4), (6, .int x6), (7, .int x7)]) dX7_addNumber_57 (Nat.le_of_ble_eq_true rfl) (fun _ => rfl) (fun y8_1 => ?_)
        refine q_iload hC 4 dX7_addNumber_59 rfl ?_
        refine q_if_ne hC 76 dX7_addNumber_61 rfl ?_ ?_
        · exact c_sub [1, 2, 3, 5, 0] rfl (hJ 3 [.ref x0, .long x2, .long x4, .int x7, .int y8_1])
        · refine q_iload hC 0 dX7_addNumber_64 rfl ?_
          refine q_if_gt hC 76 dX7_addNumber_66 rfl ?_ ?_
          · exact c_sub [1, 2, 3, 5, 0] rfl (hJ 3 [.ref x0, .long x2, .long x4, .int x7, .int y8_1])
          · refine q_lload hC 3 dX7_addNumber_69 rfl ?_
            refine q_lconst hC (v := 1) dX7_addNumber_71 rfl ?_
            refine q_lcmp hC dX7_addNumber_72 ?_
            refine q_if_ne hC 80 dX7_addNumber_73 rfl ?_ ?_
            · refine q_iconst hC dX7_addNumber_80 rfl ?_
              refine q_istoreA hC (loc' := [(6, .int 0), (8, .int y8_1), (0, .ref x0), (2, .long x2), (4, .long x4), (7, .int x7)]) dX7_addNumber_81 (Nat.le_of_ble_eq_true rfl) rfl ?_
              refine q_iload hC 0 dX7_addNumber_83 rfl ?_
              refine q_if_eq hC 97 dX7_addNumber_85 rfl ?_ ?_
              · refine q_lload hC 4 dX7_addNumber_97 rfl ?_
                refine q_ldc2 hC w_790 dX7_addNumber_99 ?_
                refine q_ldiv hC dX7_addNumber_102 ?_
                refine q_lstore hC (fun y4_2 => [(4, .long y4_2), (6, .int 0), (8, .int y8_1), (0, .ref x0), (2, .long x2), (7, .int x7)]) dX7_addNumber_103 (Nat.le_of_ble_eq_true rfl) (fun _ => rfl) (fun y4_2 => ?_)
                refine q_iincA hC (loc' := [(7, .int (x7 + 1)), (4, .long y4_2), (6, .int 0), (8, .int y8_1), (0, .ref x0), (2, .long x2)]) 5 1 dX7_addNumber_105 rfl rfl (Nat.le_of_ble_eq_true rfl) rfl ?_
                refine q_goto hC 34 dX7_addNumber_108 rfl ?_
                exact c_sub [4, 5, 1, 2, 0] rfl (hJ 2 [.ref x0, .long x2, .long y4_2, .int 0, .int (x7 + 1)])
              · refine q_aload_n hC 2 dX7_addNumber_88 rfl rfl ?_
                refine q_bipush hC (v := 48) dX7_addNumber_89 rfl ?_
                refine q_iload hC 1 dX7_addNumber_91 rfl ?_
                refine q_iadd hC dX7_addNumber_93 ?_
                refine q_cVV hC hnt (stk := []) (as := [.int (48 + y8_1)]) sX7_add (ci := 7) (by decide) rfl nX7_add rfl w_188 w_190 w_191 w_127 w_189 (Nat.le_of_ble_eq_true rfl) dX7_addNumber_94 rfl ?_
                refine q_lload hC 4 dX7_addNumber_97 rfl ?_
                refine q_ldc2 hC w_790 dX7_addNumber_99 ?_
                refine q_ldiv hC dX7_addNumber_102 ?_
                refine q_lstore hC (fun y4_3 => [(4, .long y4_3), (6, .int 0), (8, .int y8_1), (0, .ref x0), (2, .long x2), (7, .int x7)]) dX7_addNumber_103 (Nat.le_of_ble_eq_true rfl) (fun _ => rfl) (fun y4_3 => ?_)
                refine q_iincA hC (loc' := [(7, .int (x7 + 1)), (4, .long y4_3), (6, .int 0), (8, .int y8_1), (0, .ref x0), (2, .long x2)]) 5 1 dX7_addNumber_105 rfl rfl (Nat.le_of_ble_eq_true rfl) rfl ?_
                refine q_goto hC 34 dX7_addNumber_108 rfl ?_
                exact c_sub [4, 5, 1, 2, 0] rfl (hJ 2 [.ref x0, .long x2, .long y4_3, .int 0, .int (x7 + 1)])
            · exact c_sub [1, 2, 3, 5, 0] rfl (hJ 3 [.ref x0, .long x2, .long x4, .int x7, .int y8_1])
  · exact c_no
theorem pX7_addNumber_3 {Γ : CT} (hC : Ctx Γ "SpiritWall$Text" cX7_addNumber 9 none rmX7_addNumber) (hnt : NT Γ) (J : JT) (hJ : ∀ L a, Cor Γ 9 (lX7_addNumber L a).1 (lX7_addNumber L a).2.1 (lX7_addNumber L a).2.2.1 (lX7_addNumber L a).2.2.2.1 (lX7_addNumber L a).2.2.2.2 (J L a)) (a : List Value) : Cor Γ 9 0 0 76 (List.zip [0, 2, 4, 7, 8] a) [] (bX7_addNumber_3 J a) := by
  unfold bX7_addNumber_3
  split
  · rename_i x0 x2 x4 x7 x8
    refine c_sub [0, 1, 2, 3, 4] rfl (loc' := [(0, .ref x0), (2, .long x2), (4, .long x4), (7, .int x7), (8, .int x8)]) ?_
    refine q_iconst hC dX7_addNumber_76 rfl ?_
    refine q_goto hC 81 dX7_addNumber_77 rfl ?_
    refine q_istoreA hC (loc' := [(6, .int 1), (0, .ref x0), (2, .long x2), (4, .long x4), (7, .int x7), (8, .int x8)]) dX7_addNumber_81 (Nat.le_of_ble_eq_true rfl) rfl ?_
    refine q_iload hC 0 dX7_addNumber_83 rfl ?_
    refine q_if_eq hC 97 dX7_addNumber_85 rfl ?_ ?_
    · refine q_lload hC 3 dX7_addNumber_97 rfl ?_
      refine q_ldc2 hC w_790 dX7_addNumber_99 ?_
      refine q_ldiv hC dX7_addNumber_102 ?_
      refine q_lstore hC (fun y4_1 => [(4, .long y4_1), (6, .int 1), (0, .ref x0), (2, .long x2), (7, .int x7), (8, .int x8)]) dX7_addNumber_103 (Nat.le_of_ble_eq_true rfl) (fun _ => rfl) (fun y4_1 => ?_)
      refine q_iincA hC (loc' := [(7, .int (x7 + 1)), (4, .long y4_1), (6, .int 1), (0, .ref x0), (2, .long x2), (8, .int x8)]) 4 1 dX7_addNumber_105 rfl rfl (Nat.le_of_ble_eq_true rfl) rfl ?_
      refine q_goto hC 34 dX7_addNumber_108 rfl ?_
      exact c_sub [3, 4, 1, 2, 0] rfl (hJ 2 [.ref x0, .long x2, .long y4_1, .int 1, .int (x7 + 1)])
    · refine q_aload_n hC 1 dX7_addNumber_88 rfl rfl ?_
      refine q_bipush hC (v := 48) dX7_addNumber_89 rfl ?_
      refine q_iload hC 5 dX7_addNumber_91 rfl ?_
      refine q_iadd hC dX7_addNumber_93 ?_
      refine q_cVV hC hnt (stk := []) (as := [.int (48 + x8)]) sX7_add (ci := 7) (by decide) rfl nX7_add rfl w_188 w_190 w_191 w_127 w_189 (Nat.le_of_ble_eq_true rfl) dX7_addNumber_94 rfl ?_
      refine q_lload hC 3 dX7_addNumber_97 rfl ?_
      refine q_ldc2 hC w_790 dX7_addNumber_99 ?_
      refine q_ldiv hC dX7_addNumber_102 ?_
      refine q_lstore hC (fun y4_2 => [(4, .long y4_2), (6, .int 1), (0, .ref x0), (2, .long x2), (7, .int x7), (8, .int x8)]) dX7_addNumber_103 (Nat.le_of_ble_eq_true rfl) (fun _ => rfl) (fun y4_2 => ?_)
      refine q_iincA hC (loc' := [(7, .int (x7 + 1)), (4, .long y4_2), (6, .int 1), (0, .ref x0), (2, .long x2), (8, .int x8)]) 4 1 dX7_addNumber_105 rfl rfl (Nat.le_of_ble_eq_true rfl) rfl ?_
      refine q_goto hC 34 dX7_addNumber_108 rfl ?_
      exact c_sub [3, 4, 1, 2, 0] rfl (hJ 2 [.ref x0, .long x2, .long y4_2, .int 1, .int (x7 + 1)])
  · exact c_no
theorem sX7_addNumber : Snd yX7_addNumber (.code yX7_addNumber cX7_addNumber 9 none) rmX7_addNumber SX7_addNumber := by
  refine Snd.of lX7_addNumber (by decide +kernel) (fun _ => rfl) ?_
  intro Γ hC hnt hnm J hJ L a
  match L with
  | 0 => exact pX7_addNumber_0 hC hnt J hJ a
  | 1 => exact pX7_addNumber_1 hC hnt J hJ a
  | 2 => exact pX7_addNumber_2 hC hnt J hJ a
  | 3 => exact pX7_addNumber_3 hC hnt J hJ a
  | L + 4 => exact c_no
/-! SpiritWall.printMarks()I -/
theorem dX10_printMarks_0 : decode cX10_printMarks 0 = .ok (.aload_n 0, 1) := by decide +kernel
theorem dX10_printMarks_1 : decode cX10_printMarks 1 = .ok (.getfield 18, 3) := by decide +kernel
theorem dX10_printMarks_4 : decode cX10_printMarks 4 = .ok (.iconst 0, 1) := by decide +kernel
theorem dX10_printMarks_5 : decode cX10_printMarks 5 = .ok (.putfield 102, 3) := by decide +kernel
theorem dX10_printMarks_8 : decode cX10_printMarks 8 = .ok (.iconst 0, 1) := by decide +kernel
theorem dX10_printMarks_9 : decode cX10_printMarks 9 = .ok (.istore_n 1, 1) := by decide +kernel
theorem dX10_printMarks_10 : decode cX10_printMarks 10 = .ok (.iload_n 1, 1) := by decide +kernel
theorem dX10_printMarks_11 : decode cX10_printMarks 11 = .ok (.aload_n 0, 1) := by decide +kernel
theorem dX10_printMarks_12 : decode cX10_printMarks 12 = .ok (.getfield 24, 3) := by decide +kernel
theorem dX10_printMarks_15 : decode cX10_printMarks 15 = .ok (.getfield 132, 3) := by decide +kernel
theorem dX10_printMarks_18 : decode cX10_printMarks 18 = .ok (.if_icmp .ge 101, 3) := by decide +kernel
theorem dX10_printMarks_21 : decode cX10_printMarks 21 = .ok (.iload_n 1, 1) := by decide +kernel
theorem dX10_printMarks_22 : decode cX10_printMarks 22 = .ok (.ifCond .le 12, 3) := by decide +kernel
theorem dX10_printMarks_25 : decode cX10_printMarks 25 = .ok (.aload_n 0, 1) := by decide +kernel
theorem dX10_printMarks_26 : decode cX10_printMarks 26 = .ok (.getfield 18, 3) := by decide +kernel
theorem dX10_printMarks_29 : decode cX10_printMarks 29 = .ok (.bipush 32, 2) := by decide +kernel
theorem dX10_printMarks_31 : decode cX10_printMarks 31 = .ok (.invokevirtual 401, 3) := by decide +kernel
theorem dX10_printMarks_34 : decode cX10_printMarks 34 = .ok (.aload_n 0, 1) := by decide +kernel
theorem dX10_printMarks_35 : decode cX10_printMarks 35 = .ok (.getfield 24, 3) := by decide +kernel
theorem dX10_printMarks_38 : decode cX10_printMarks 38 = .ok (.iload_n 1, 1) := by decide +kernel
theorem dX10_printMarks_39 : decode cX10_printMarks 39 = .ok (.aload_n 0, 1) := by decide +kernel
theorem dX10_printMarks_40 : decode cX10_printMarks 40 = .ok (.getfield 18, 3) := by decide +kernel
theorem dX10_printMarks_43 : decode cX10_printMarks 43 = .ok (.invokevirtual 403, 3) := by decide +kernel
theorem dX10_printMarks_46 : decode cX10_printMarks 46 = .ok (.aload_n 0, 1) := by decide +kernel
theorem dX10_printMarks_47 : decode cX10_printMarks 47 = .ok (.getfield 18, 3) := by decide +kernel
theorem dX10_printMarks_50 : decode cX10_printMarks 50 = .ok (.bipush 58, 2) := by decide +kernel
theorem dX10_printMarks_52 : decode cX10_printMarks 52 = .ok (.invokevirtual 401, 3) := by decide +kernel
theorem dX10_printMarks_55 : decode cX10_printMarks 55 = .ok (.aload_n 0, 1) := by decide +kernel
theorem dX10_printMarks_56 : decode cX10_printMarks 56 = .ok (.getfield 31, 3) := by decide +kernel
theorem dX10_printMarks_59 : decode cX10_printMarks 59 = .ok (.iload_n 1, 1) := by decide +kernel
theorem dX10_printMarks_60 : decode cX10_printMarks 60 = .ok (.invokevirtual 407, 3) := by decide +kernel
theorem dX10_printMarks_63 : decode cX10_printMarks 63 = .ok (.ifCond .eq 21, 3) := by decide +kernel
theorem dX10_printMarks_66 : decode cX10_printMarks 66 = .ok (.aload_n 0, 1) := by decide +kernel
theorem dX10_printMarks_67 : decode cX10_printMarks 67 = .ok (.getfield 18, 3) := by decide +kernel
theorem dX10_printMarks_70 : decode cX10_printMarks 70 = .ok (.aload_n 0, 1) := by decide +kernel
theorem dX10_printMarks_71 : decode cX10_printMarks 71 = .ok (.getfield 31, 3) := by decide +kernel
theorem dX10_printMarks_74 : decode cX10_printMarks 74 = .ok (.iload_n 1, 1) := by decide +kernel
theorem dX10_printMarks_75 : decode cX10_printMarks 75 = .ok (.invokevirtual 214, 3) := by decide +kernel
theorem dX10_printMarks_78 : decode cX10_printMarks 78 = .ok (.invokevirtual 410, 3) := by decide +kernel
theorem dX10_printMarks_81 : decode cX10_printMarks 81 = .ok (.goto 12, 3) := by decide +kernel
theorem dX10_printMarks_84 : decode cX10_printMarks 84 = .ok (.aload_n 0, 1) := by decide +kernel
theorem dX10_printMarks_85 : decode cX10_printMarks 85 = .ok (.getfield 18, 3) := by decide +kernel
theorem dX10_printMarks_88 : decode cX10_printMarks 88 = .ok (.bipush 63, 2) := by decide +kernel
theorem dX10_printMarks_90 : decode cX10_printMarks 90 = .ok (.invokevirtual 401, 3) := by decide +kernel
theorem dX10_printMarks_93 : decode cX10_printMarks 93 = .ok (.aload_n 0, 1) := by decide +kernel
theorem dX10_printMarks_94 : decode cX10_printMarks 94 = .ok (.getfield 31, 3) := by decide +kernel
theorem dX10_printMarks_97 : decode cX10_printMarks 97 = .ok (.iload_n 1, 1) := by decide +kernel
theorem dX10_printMarks_98 : decode cX10_printMarks 98 = .ok (.invokevirtual 379, 3) := by decide +kernel
theorem dX10_printMarks_101 : decode cX10_printMarks 101 = .ok (.ifCond .eq 12, 3) := by decide +kernel
theorem dX10_printMarks_104 : decode cX10_printMarks 104 = .ok (.aload_n 0, 1) := by decide +kernel
theorem dX10_printMarks_105 : decode cX10_printMarks 105 = .ok (.getfield 18, 3) := by decide +kernel
theorem dX10_printMarks_108 : decode cX10_printMarks 108 = .ok (.bipush 42, 2) := by decide +kernel
theorem dX10_printMarks_110 : decode cX10_printMarks 110 = .ok (.invokevirtual 401, 3) := by decide +kernel
theorem dX10_printMarks_113 : decode cX10_printMarks 113 = .ok (.iinc 1 1, 3) := by decide +kernel
theorem dX10_printMarks_116 : decode cX10_printMarks 116 = .ok (.goto (-106), 3) := by decide +kernel
theorem dX10_printMarks_119 : decode cX10_printMarks 119 = .ok (.aload_n 0, 1) := by decide +kernel
theorem dX10_printMarks_120 : decode cX10_printMarks 120 = .ok (.getfield 18, 3) := by decide +kernel
theorem dX10_printMarks_123 : decode cX10_printMarks 123 = .ok (.getfield 102, 3) := by decide +kernel
theorem dX10_printMarks_126 : decode cX10_printMarks 126 = .ok (.ireturn, 1) := by decide +kernel
def rmX10_printMarks : Room := rmk 10 0 0 238
theorem nX10_printMarks : nameOk yX10_printMarks 0 = true := by decide +kernel
def bX10_printMarks_0 (J : JT) : List Value → Sem
  | [.ref x0] =>
    gR 10 1 x0 fun r1 =>
    pI 7 1 r1 0 <|
    J 1 [.ref x0, .int 0]
  | _ => no
def bX10_printMarks_1 (J : JT) : List Value → Sem
  | [.ref x0, .int x1] =>
    gR 10 2 x0 fun r1 =>
    gI 9 0 r1 fun v2 =>
    br (v2 ≤ x1)
    (gR 10 1 x0 fun r3 =>
    gI 7 1 r3 fun v4 =>
    rI v4)
    (br (x1 ≤ 0)
    (J 2 [.ref x0, .int x1])
    (gR 10 1 x0 fun r5 =>
    ob 7 r5 (cV SX7_add [.ref r5, .int 32] <|
    J 2 [.ref x0, .int x1])))
  | _ => no
def bX10_printMarks_2 (J : JT) : List Value → Sem
  | [.ref x0, .int x1] =>
    gR 10 2 x0 fun r1 =>
    gR 10 1 x0 fun r2 =>
    ob 9 r1 (cV SX9_writeName [.ref r1, .int x1, .ref r2] <|
    gR 10 1 x0 fun r3 =>
    ob 7 r3 (cV SX7_add [.ref r3, .int 58] <|
    gR 10 3 x0 fun r4 =>
    ob 6 r4 (cI SX6_hasHeight [.ref r4, .int x1] fun v5 =>
    br (v5 = 0)
    (gR 10 1 x0 fun r6 =>
    ob 7 r6 (cV SX7_add [.ref r6, .int 63] <|
    gR 10 3 x0 fun r7 =>
    ob 6 r7 (cI SX6_isBench [.ref r7, .int x1] fun v8 =>
    br (v8 = 0)
    (J 1 [.ref x0, .int (x1 + 1)])
    (gR 10 1 x0 fun r9 =>
    ob 7 r9 (cV SX7_add [.ref r9, .int 42] <|
    J 1 [.ref x0, .int (x1 + 1)])))))
    (gR 10 1 x0 fun r10 =>
    gR 10 3 x0 fun r11 =>
    ob 6 r11 (cI SX6_heightOf [.ref r11, .int x1] fun v12 =>
    ob 7 r10 (cV SX7_addNumber [.ref r10, .int v12] <|
    gR 10 3 x0 fun r13 =>
    ob 6 r13 (cI SX6_isBench [.ref r13, .int x1] fun v14 =>
    br (v14 = 0)
    (J 1 [.ref x0, .int (x1 + 1)])
    (gR 10 1 x0 fun r15 =>
    ob 7 r15 (cV SX7_add [.ref r15, .int 42] <|
    J 1 [.ref x0, .int (x1 + 1)])))))))))
  | _ => no
def bX10_printMarks (J : JT) : JT := fun L a => match L with
  | 0 => bX10_printMarks_0 J a
  | 1 => bX10_printMarks_1 J a
  | 2 => bX10_printMarks_2 J a
  | _ => no
def SX10_printMarks : ST := mk 2 bX10_printMarks
def lX10_printMarks (L : Nat) (a : List Value) : Nat × Nat × Nat × List (Nat × Value) × List Value := match L with
  | 0 => (0, 0, 0, lv_args 0 a, [])
  | 1 => (0, 0, 10, List.zip [0, 1] a, [])
  | 2 => (0, 0, 34, List.zip [0, 1] a, [])
  | _ => (0, 0, 0, [], [])
theorem pX10_printMarks_0 {Γ : CT} (hC : Ctx Γ "SpiritWall" cX10_printMarks 2 (some .int) rmX10_printMarks) (hnt : NT Γ) (J : JT) (hJ : ∀ L a, Cor Γ 2 (lX10_printMarks L a).1 (lX10_printMarks L a).2.1 (lX10_printMarks L a).2.2.1 (lX10_printMarks L a).2.2.2.1 (lX10_printMarks L a).2.2.2.2 (J L a)) (a : List Value) : Cor Γ 2 0 0 0 (lv_args 0 a) [] (bX10_printMarks_0 J a) := by
  unfold bX10_printMarks_0
  split
  · rename_i x0
    refine c_sub [0] rfl (loc' := [(0, .ref x0)]) ?_
    refine q_aload_n hC 0 dX10_printMarks_0 rfl rfl ?_
    refine q_getR hC (by decide) (by decide) rfl w_129 dX10_printMarks_1 (fun r1 => ?_)
    refine q_iconst hC dX10_printMarks_4 rfl ?_
    refine q_putI hC (by decide) (by decide) rfl rfl w_192 dX10_printMarks_5 ?_
    refine q_iconst hC dX10_printMarks_8 rfl ?_
    refine q_istore_nA hC (loc' := [(1, .int 0), (0, .ref x0)]) dX10_printMarks_9 rfl (Nat.le_of_ble_eq_true rfl) rfl ?_
    exact c_sub [1, 0] rfl (hJ 1 [.ref x0, .int 0])
  · exact c_no
theorem pX10_printMarks_1 {Γ : CT} (hC : Ctx Γ "SpiritWall" cX10_printMarks 2 (some .int) rmX10_printMarks) (hnt : NT Γ) (J : JT) (hJ : ∀ L a, Cor Γ 2 (lX10_printMarks L a).1 (lX10_printMarks L a).2.1 (lX10_printMarks L a).2.2.1 (lX10_printMarks L a).2.2.2.1 (lX10_printMarks L a).2.2.2.2 (J L a)) (a : List Value) : Cor Γ 2 0 0 10 (List.zip [0, 1] a) [] (bX10_printMarks_1 J a) := by
  unfold bX10_printMarks_1
  split
  · rename_i x0 x1
    refine c_sub [0, 1] rfl (loc' := [(0, .ref x0), (1, .int x1)]) ?_
    refine q_iload_n hC 1 dX10_printMarks_10 rfl rfl ?_
    refine q_aload_n hC 0 dX10_printMarks_11 rfl rfl ?_
    refine q_getR hC (by decide) (by decide) rfl w_131 dX10_printMarks_12 (fun r1 => ?_)
    refine q_getI hC (by decide) (by decide) rfl w_346 dX10_printMarks_15 (fun v2 => ?_)
    refine q_ic_ge hC 119 dX10_printMarks_18 rfl ?_ ?_
    · refine q_aload_n hC 0 dX10_printMarks_119 rfl rfl ?_
      refine q_getR hC (by decide) (by decide) rfl w_129 dX10_printMarks_120 (fun r3 => ?_)
      refine q_getI hC (by decide) (by decide) rfl w_192 dX10_printMarks_123 (fun v4 => ?_)
      exact q_iret hC dX10_printMarks_126 (Nat.le_of_ble_eq_true rfl) (Nat.le_of_ble_eq_true rfl)
    · refine q_iload_n hC 1 dX10_printMarks_21 rfl rfl ?_
      refine q_if_le hC 34 dX10_printMarks_22 rfl ?_ ?_
      · exact c_sub [0, 1] rfl (hJ 2 [.ref x0, .int x1])
      · refine q_aload_n hC 0 dX10_printMarks_25 rfl rfl ?_
        refine q_getR hC (by decide) (by decide) rfl w_129 dX10_printMarks_26 (fun r5 => ?_)
        refine q_bipush hC (v := 32) dX10_printMarks_29 rfl ?_
        refine q_cVV hC hnt (stk := []) (as := [.int 32]) sX7_add (ci := 7) (by decide) rfl nX7_add rfl w_791 w_190 w_191 w_127 w_189 (Nat.le_of_ble_eq_true rfl) dX10_printMarks_31 rfl ?_
        exact c_sub [0, 1] rfl (hJ 2 [.ref x0, .int x1])
  · exact c_no
theorem pX10_printMarks_2 {Γ : CT} (hC : Ctx Γ "SpiritWall" cX10_printMarks 2 (some .int) rmX10_printMarks) (hnt : NT Γ) (J : JT) (hJ : ∀ L a, Cor Γ 2 (lX10_printMarks L a).1 (lX10_printMarks L a).2.1 (lX10_printMarks L a).2.2.1 (lX10_printMarks L a).2.2.2.1 (lX10_printMarks L a).2.2.2.2 (J L a)) (a : List Value) : Cor Γ 2 0 0 34 (List.zip [0, 1] a) [] (bX10_printMarks_2 J a) := by
  unfold bX10_printMarks_2
  split
  · rename_i x0 x1
    refine c_sub [0, 1] rfl (loc' := [(0, .ref x0), (1, .int x1)]) ?_
    refine q_aload_n hC 0 dX10_printMarks_34 rfl rfl ?_
    refine q_getR hC (by decide) (by decide) rfl w_131 dX10_printMarks_35 (fun r1 => ?_)
    refine q_iload_n hC 1 dX10_printMarks_38 rfl rfl ?_
    refine q_aload_n hC 0 dX10_printMarks_39 rfl rfl ?_
    refine q_getR hC (by decide) (by decide) rfl w_129 dX10_printMarks_40 (fun r2 => ?_)
    refine q_cVV hC hnt (stk := []) (as := [.int x1, .ref r2]) sX9_writeName (ci := 9) (by decide) rfl nX9_writeName rfl w_792 w_794 w_795 w_65 w_793 (Nat.le_of_ble_eq_true rfl) dX10_printMarks_43 rfl ?_
    refine q_aload_n hC 0 dX10_printMarks_46 rfl rfl ?_
    refine q_getR hC (by decide) (by decide) rfl w_129 dX10_printMarks_47 (fun r3 => ?_)
    refine q_bipush hC (v := 58) dX10_printMarks_50 rfl ?_
    refine q_cVV hC hnt (stk := []) (as := [.int 58]) sX7_add (ci := 7) (by decide) rfl nX7_add rfl w_791 w_190 w_191 w_127 w_189 (Nat.le_of_ble_eq_true rfl) dX10_printMarks_52 rfl ?_
    refine q_aload_n hC 0 dX10_printMarks_55 rfl rfl ?_
    refine q_getR hC (by decide) (by decide) rfl w_133 dX10_printMarks_56 (fun r4 => ?_)
    refine q_iload_n hC 1 dX10_printMarks_59 rfl rfl ?_
    refine q_cVI hC hnt (stk := []) (as := [.int x1]) sX6_hasHeight (ci := 6) (by decide) rfl nX6_hasHeight rfl w_796 w_607 w_608 w_35 w_606 (Nat.le_of_ble_eq_true rfl) dX10_printMarks_60 rfl (fun v5 => ?_)
    refine q_if_eq hC 84 dX10_printMarks_63 rfl ?_ ?_
    · refine q_aload_n hC 0 dX10_printMarks_84 rfl rfl ?_
      refine q_getR hC (by decide) (by decide) rfl w_129 dX10_printMarks_85 (fun r6 => ?_)
      refine q_bipush hC (v := 63) dX10_printMarks_88 rfl ?_
      refine q_cVV hC hnt (stk := []) (as := [.int 63]) sX7_add (ci := 7) (by decide) rfl nX7_add rfl w_791 w_190 w_191 w_127 w_189 (Nat.le_of_ble_eq_true rfl) dX10_printMarks_90 rfl ?_
      refine q_aload_n hC 0 dX10_printMarks_93 rfl rfl ?_
      refine q_getR hC (by decide) (by decide) rfl w_133 dX10_printMarks_94 (fun r7 => ?_)
      refine q_iload_n hC 1 dX10_printMarks_97 rfl rfl ?_
      refine q_cVI hC hnt (stk := []) (as := [.int x1]) sX6_isBench (ci := 6) (by decide) rfl nX6_isBench rfl w_614 w_616 w_617 w_35 w_615 (Nat.le_of_ble_eq_true rfl) dX10_printMarks_98 rfl (fun v8 => ?_)
      refine q_if_eq hC 113 dX10_printMarks_101 rfl ?_ ?_
      · refine q_iincA hC (loc' := [(1, .int (x1 + 1)), (0, .ref x0)]) 1 1 dX10_printMarks_113 rfl rfl (Nat.le_of_ble_eq_true rfl) rfl ?_
        refine q_goto hC 10 dX10_printMarks_116 rfl ?_
        exact c_sub [1, 0] rfl (hJ 1 [.ref x0, .int (x1 + 1)])
      · refine q_aload_n hC 0 dX10_printMarks_104 rfl rfl ?_
        refine q_getR hC (by decide) (by decide) rfl w_129 dX10_printMarks_105 (fun r9 => ?_)
        refine q_bipush hC (v := 42) dX10_printMarks_108 rfl ?_
        refine q_cVV hC hnt (stk := []) (as := [.int 42]) sX7_add (ci := 7) (by decide) rfl nX7_add rfl w_791 w_190 w_191 w_127 w_189 (Nat.le_of_ble_eq_true rfl) dX10_printMarks_110 rfl ?_
        refine q_iincA hC (loc' := [(1, .int (x1 + 1)), (0, .ref x0)]) 1 1 dX10_printMarks_113 rfl rfl (Nat.le_of_ble_eq_true rfl) rfl ?_
        refine q_goto hC 10 dX10_printMarks_116 rfl ?_
        exact c_sub [1, 0] rfl (hJ 1 [.ref x0, .int (x1 + 1)])
    · refine q_aload_n hC 0 dX10_printMarks_66 rfl rfl ?_
      refine q_getR hC (by decide) (by decide) rfl w_129 dX10_printMarks_67 (fun r10 => ?_)
      refine q_aload_n hC 0 dX10_printMarks_70 rfl rfl ?_
      refine q_getR hC (by decide) (by decide) rfl w_133 dX10_printMarks_71 (fun r11 => ?_)
      refine q_iload_n hC 1 dX10_printMarks_74 rfl rfl ?_
      refine q_cVI hC hnt (stk := [.ref r10]) (as := [.int x1]) sX6_heightOf (ci := 6) (by decide) rfl nX6_heightOf rfl w_610 w_612 w_613 w_35 w_611 (Nat.le_of_ble_eq_true rfl) dX10_printMarks_75 rfl (fun v12 => ?_)
      refine q_cVV hC hnt (stk := []) (as := [.int v12]) sX7_addNumber (ci := 7) (by decide) rfl nX7_addNumber rfl w_797 w_799 w_800 w_127 w_798 (Nat.le_of_ble_eq_true rfl) dX10_printMarks_78 rfl ?_
      refine q_goto hC 93 dX10_printMarks_81 rfl ?_
      refine q_aload_n hC 0 dX10_printMarks_93 rfl rfl ?_
      refine q_getR hC (by decide) (by decide) rfl w_133 dX10_printMarks_94 (fun r13 => ?_)
      refine q_iload_n hC 1 dX10_printMarks_97 rfl rfl ?_
      refine q_cVI hC hnt (stk := []) (as := [.int x1]) sX6_isBench (ci := 6) (by decide) rfl nX6_isBench rfl w_614 w_616 w_617 w_35 w_615 (Nat.le_of_ble_eq_true rfl) dX10_printMarks_98 rfl (fun v14 => ?_)
      refine q_if_eq hC 113 dX10_printMarks_101 rfl ?_ ?_
      · refine q_iincA hC (loc' := [(1, .int (x1 + 1)), (0, .ref x0)]) 1 1 dX10_printMarks_113 rfl rfl (Nat.le_of_ble_eq_true rfl) rfl ?_
        refine q_goto hC 10 dX10_printMarks_116 rfl ?_
        exact c_sub [1, 0] rfl (hJ 1 [.ref x0, .int (x1 + 1)])
      · refine q_aload_n hC 0 dX10_printMarks_104 rfl rfl ?_
        refine q_getR hC (by decide) (by decide) rfl w_129 dX10_printMarks_105 (fun r15 => ?_)
        refine q_bipush hC (v := 42) dX10_printMarks_108 rfl ?_
        refine q_cVV hC hnt (stk := []) (as := [.int 42]) sX7_add (ci := 7) (by decide) rfl nX7_add rfl w_791 w_190 w_191 w_127 w_189 (Nat.le_of_ble_eq_true rfl) dX10_printMarks_110 rfl ?_
        refine q_iincA hC (loc' := [(1, .int (x1 + 1)), (0, .ref x0)]) 1 1 dX10_printMarks_113 rfl rfl (Nat.le_of_ble_eq_true rfl) rfl ?_
        refine q_goto hC 10 dX10_printMarks_116 rfl ?_
        exact c_sub [1, 0] rfl (hJ 1 [.ref x0, .int (x1 + 1)])
  · exact c_no
theorem sX10_printMarks : Snd yX10_printMarks (.code yX10_printMarks cX10_printMarks 2 (some .int)) rmX10_printMarks SX10_printMarks := by
  refine Snd.of lX10_printMarks (by decide +kernel) (fun _ => rfl) ?_
  intro Γ hC hnt hnm J hJ L a
  match L with
  | 0 => exact pX10_printMarks_0 hC hnt J hJ a
  | 1 => exact pX10_printMarks_1 hC hnt J hJ a
  | 2 => exact pX10_printMarks_2 hC hnt J hJ a
  | L + 3 => exact c_no
/-! SpiritWall.printLoop(I)I -/
theorem dX10_printLoop_0 : decode cX10_printLoop 0 = .ok (.aload_n 0, 1) := by decide +kernel
theorem dX10_printLoop_1 : decode cX10_printLoop 1 = .ok (.aload_n 0, 1) := by decide +kernel
theorem dX10_printLoop_2 : decode cX10_printLoop 2 = .ok (.getfield 31, 3) := by decide +kernel
theorem dX10_printLoop_5 : decode cX10_printLoop 5 = .ok (.invokevirtual 135, 3) := by decide +kernel
theorem dX10_printLoop_8 : decode cX10_printLoop 8 = .ok (.aload_n 0, 1) := by decide +kernel
theorem dX10_printLoop_9 : decode cX10_printLoop 9 = .ok (.iload_n 1, 1) := by decide +kernel
theorem dX10_printLoop_10 : decode cX10_printLoop 10 = .ok (.invokevirtual 291, 3) := by decide +kernel
theorem dX10_printLoop_13 : decode cX10_printLoop 13 = .ok (.aload_n 0, 1) := by decide +kernel
theorem dX10_printLoop_14 : decode cX10_printLoop 14 = .ok (.getfield 18, 3) := by decide +kernel
theorem dX10_printLoop_17 : decode cX10_printLoop 17 = .ok (.iconst 0, 1) := by decide +kernel
theorem dX10_printLoop_18 : decode cX10_printLoop 18 = .ok (.putfield 102, 3) := by decide +kernel
theorem dX10_printLoop_21 : decode cX10_printLoop 21 = .ok (.aload_n 0, 1) := by decide +kernel
theorem dX10_printLoop_22 : decode cX10_printLoop 22 = .ok (.getfield 80, 3) := by decide +kernel
theorem dX10_printLoop_25 : decode cX10_printLoop 25 = .ok (.getfield 297, 3) := by decide +kernel
theorem dX10_printLoop_28 : decode cX10_printLoop 28 = .ok (.iload_n 1, 1) := by decide +kernel
theorem dX10_printLoop_29 : decode cX10_printLoop 29 = .ok (.invokestatic 190, 3) := by decide +kernel
theorem dX10_printLoop_32 : decode cX10_printLoop 32 = .ok (.istore_n 2, 1) := by decide +kernel
theorem dX10_printLoop_33 : decode cX10_printLoop 33 = .ok (.iconst 0, 1) := by decide +kernel
theorem dX10_printLoop_34 : decode cX10_printLoop 34 = .ok (.istore_n 3, 1) := by decide +kernel
theorem dX10_printLoop_35 : decode cX10_printLoop 35 = .ok (.iload_n 3, 1) := by decide +kernel
theorem dX10_printLoop_36 : decode cX10_printLoop 36 = .ok (.iload_n 2, 1) := by decide +kernel
theorem dX10_printLoop_37 : decode cX10_printLoop 37 = .ok (.if_icmp .ge 42, 3) := by decide +kernel
theorem dX10_printLoop_40 : decode cX10_printLoop 40 = .ok (.iload_n 3, 1) := by decide +kernel
theorem dX10_printLoop_41 : decode cX10_printLoop 41 = .ok (.ifCond .le 12, 3) := by decide +kernel
theorem dX10_printLoop_44 : decode cX10_printLoop 44 = .ok (.aload_n 0, 1) := by decide +kernel
theorem dX10_printLoop_45 : decode cX10_printLoop 45 = .ok (.getfield 18, 3) := by decide +kernel
theorem dX10_printLoop_48 : decode cX10_printLoop 48 = .ok (.bipush 47, 2) := by decide +kernel
theorem dX10_printLoop_50 : decode cX10_printLoop 50 = .ok (.invokevirtual 401, 3) := by decide +kernel
theorem dX10_printLoop_53 : decode cX10_printLoop 53 = .ok (.aload_n 0, 1) := by decide +kernel
theorem dX10_printLoop_54 : decode cX10_printLoop 54 = .ok (.getfield 24, 3) := by decide +kernel
theorem dX10_printLoop_57 : decode cX10_printLoop 57 = .ok (.aload_n 0, 1) := by decide +kernel
theorem dX10_printLoop_58 : decode cX10_printLoop 58 = .ok (.getfield 80, 3) := by decide +kernel
theorem dX10_printLoop_61 : decode cX10_printLoop 61 = .ok (.iload_n 1, 1) := by decide +kernel
theorem dX10_printLoop_62 : decode cX10_printLoop 62 = .ok (.iload_n 3, 1) := by decide +kernel
theorem dX10_printLoop_63 : decode cX10_printLoop 63 = .ok (.invokevirtual 294, 3) := by decide +kernel
theorem dX10_printLoop_66 : decode cX10_printLoop 66 = .ok (.aload_n 0, 1) := by decide +kernel
theorem dX10_printLoop_67 : decode cX10_printLoop 67 = .ok (.getfield 18, 3) := by decide +kernel
theorem dX10_printLoop_70 : decode cX10_printLoop 70 = .ok (.invokevirtual 403, 3) := by decide +kernel
theorem dX10_printLoop_73 : decode cX10_printLoop 73 = .ok (.iinc 3 1, 3) := by decide +kernel
theorem dX10_printLoop_76 : decode cX10_printLoop 76 = .ok (.goto (-41), 3) := by decide +kernel
theorem dX10_printLoop_79 : decode cX10_printLoop 79 = .ok (.aload_n 0, 1) := by decide +kernel
theorem dX10_printLoop_80 : decode cX10_printLoop 80 = .ok (.getfield 18, 3) := by decide +kernel
theorem dX10_printLoop_83 : decode cX10_printLoop 83 = .ok (.bipush 32, 2) := by decide +kernel
theorem dX10_printLoop_85 : decode cX10_printLoop 85 = .ok (.invokevirtual 401, 3) := by decide +kernel
theorem dX10_printLoop_88 : decode cX10_printLoop 88 = .ok (.aload_n 0, 1) := by decide +kernel
theorem dX10_printLoop_89 : decode cX10_printLoop 89 = .ok (.getfield 18, 3) := by decide +kernel
theorem dX10_printLoop_92 : decode cX10_printLoop 92 = .ok (.aload_n 0, 1) := by decide +kernel
theorem dX10_printLoop_93 : decode cX10_printLoop 93 = .ok (.getfield 80, 3) := by decide +kernel
theorem dX10_printLoop_96 : decode cX10_printLoop 96 = .ok (.getfield 303, 3) := by decide +kernel
theorem dX10_printLoop_99 : decode cX10_printLoop 99 = .ok (.iload_n 1, 1) := by decide +kernel
theorem dX10_printLoop_100 : decode cX10_printLoop 100 = .ok (.invokestatic 190, 3) := by decide +kernel
theorem dX10_printLoop_103 : decode cX10_printLoop 103 = .ok (.invokevirtual 410, 3) := by decide +kernel
theorem dX10_printLoop_106 : decode cX10_printLoop 106 = .ok (.aload_n 0, 1) := by decide +kernel
theorem dX10_printLoop_107 : decode cX10_printLoop 107 = .ok (.getfield 80, 3) := by decide +kernel
theorem dX10_printLoop_110 : decode cX10_printLoop 110 = .ok (.iload_n 1, 1) := by decide +kernel
theorem dX10_printLoop_111 : decode cX10_printLoop 111 = .ok (.aload_n 0, 1) := by decide +kernel
theorem dX10_printLoop_112 : decode cX10_printLoop 112 = .ok (.getfield 31, 3) := by decide +kernel
theorem dX10_printLoop_115 : decode cX10_printLoop 115 = .ok (.iconst 3, 1) := by decide +kernel
theorem dX10_printLoop_116 : decode cX10_printLoop 116 = .ok (.invokevirtual 160, 3) := by decide +kernel
theorem dX10_printLoop_119 : decode cX10_printLoop 119 = .ok (.invokevirtual 306, 3) := by decide +kernel
theorem dX10_printLoop_122 : decode cX10_printLoop 122 = .ok (.ifCond .ne 12, 3) := by decide +kernel
theorem dX10_printLoop_125 : decode cX10_printLoop 125 = .ok (.aload_n 0, 1) := by decide +kernel
theorem dX10_printLoop_126 : decode cX10_printLoop 126 = .ok (.getfield 18, 3) := by decide +kernel
theorem dX10_printLoop_129 : decode cX10_printLoop 129 = .ok (.bipush 33, 2) := by decide +kernel
theorem dX10_printLoop_131 : decode cX10_printLoop 131 = .ok (.invokevirtual 401, 3) := by decide +kernel
theorem dX10_printLoop_134 : decode cX10_printLoop 134 = .ok (.aload_n 0, 1) := by decide +kernel
theorem dX10_printLoop_135 : decode cX10_printLoop 135 = .ok (.getfield 18, 3) := by decide +kernel
theorem dX10_printLoop_138 : decode cX10_printLoop 138 = .ok (.getfield 102, 3) := by decide +kernel
theorem dX10_printLoop_141 : decode cX10_printLoop 141 = .ok (.ireturn, 1) := by decide +kernel
def rmX10_printLoop : Room := rmk 13 1 6 311
theorem nX10_printLoop : nameOk yX10_printLoop 1 = true := by decide +kernel
def bX10_printLoop_0 (J : JT) : List Value → Sem
  | [.ref x0, .int x1] =>
    gR 10 3 x0 fun r1 =>
    ob 10 x0 (cV SX10_survey [.ref x0, .ref r1] <|
    ob 10 x0 (cV SX10_needLoop [.ref x0, .int x1] <|
    gR 10 1 x0 fun r2 =>
    pI 7 1 r2 0 <|
    gR 10 10 x0 fun r3 =>
    gR 4 4 r3 fun r4 =>
    cI SX10_cell [.ref r4, .int x1] fun v5 =>
    J 1 [.ref x0, .int x1, .int v5, .int 0]))
  | _ => no
def bX10_printLoop_1 (J : JT) : List Value → Sem
  | [.ref x0, .int x1, .int x2, .int x3] =>
    br (x2 ≤ x3)
    (gR 10 1 x0 fun r1 =>
    ob 7 r1 (cV SX7_add [.ref r1, .int 32] <|
    gR 10 1 x0 fun r2 =>
    gR 10 10 x0 fun r3 =>
    gR 4 6 r3 fun r4 =>
    cI SX10_cell [.ref r4, .int x1] fun v5 =>
    ob 7 r2 (cV SX7_addNumber [.ref r2, .int v5] <|
    gR 10 10 x0 fun r6 =>
    gR 10 3 x0 fun r7 =>
    ob 6 r7 (cI SX6_settingOf [.ref r7, .int 3] fun v8 =>
    ob 4 r6 (cI SX4_closes [.ref r6, .int x1, .int v8] fun v9 =>
    br (v9 = 0)
    (gR 10 1 x0 fun r12 =>
    ob 7 r12 (cV SX7_add [.ref r12, .int 33] <|
    gR 10 1 x0 fun r13 =>
    gI 7 1 r13 fun v14 =>
    rI v14))
    (gR 10 1 x0 fun r10 =>
    gI 7 1 r10 fun v11 =>
    rI v11))))))
    (br (x3 ≤ 0)
    (gR 10 2 x0 fun r15 =>
    gR 10 10 x0 fun r16 =>
    ob 4 r16 (cI SX4_markAt [.ref r16, .int x1, .int x3] fun v17 =>
    gR 10 1 x0 fun r18 =>
    ob 9 r15 (cV SX9_writeName [.ref r15, .int v17, .ref r18] <|
    J 1 [.ref x0, .int x1, .int x2, .int (x3 + 1)])))
    (gR 10 1 x0 fun r19 =>
    ob 7 r19 (cV SX7_add [.ref r19, .int 47] <|
    gR 10 2 x0 fun r20 =>
    gR 10 10 x0 fun r21 =>
    ob 4 r21 (cI SX4_markAt [.ref r21, .int x1, .int x3] fun v22 =>
    gR 10 1 x0 fun r23 =>
    ob 9 r20 (cV SX9_writeName [.ref r20, .int v22, .ref r23] <|
    J 1 [.ref x0, .int x1, .int x2, .int (x3 + 1)])))))
  | _ => no
def bX10_printLoop (J : JT) : JT := fun L a => match L with
  | 0 => bX10_printLoop_0 J a
  | 1 => bX10_printLoop_1 J a
  | _ => no
def SX10_printLoop : ST := mk 4 bX10_printLoop
def lX10_printLoop (L : Nat) (a : List Value) : Nat × Nat × Nat × List (Nat × Value) × List Value := match L with
  | 0 => (0, 0, 0, lv_args 0 a, [])
  | 1 => (1, 6, 35, List.zip [0, 1, 2, 3] a, [])
  | _ => (0, 0, 0, [], [])
theorem pX10_printLoop_0 {Γ : CT} (hC : Ctx Γ "SpiritWall" cX10_printLoop 4 (some .int) rmX10_printLoop) (hnt : NT Γ) (J : JT) (hJ : ∀ L a, Cor Γ 4 (lX10_printLoop L a).1 (lX10_printLoop L a).2.1 (lX10_printLoop L a).2.2.1 (lX10_printLoop L a).2.2.2.1 (lX10_printLoop L a).2.2.2.2 (J L a)) (a : List Value) : Cor Γ 4 0 0 0 (lv_args 0 a) [] (bX10_printLoop_0 J a) := by
  unfold bX10_printLoop_0
  split
  · rename_i x0 x1
    refine c_sub [0, 1] rfl (loc' := [(0, .ref x0), (1, .int x1)]) ?_
    refine q_aload_n hC 0 dX10_printLoop_0 rfl rfl ?_
    refine q_aload_n hC 0 dX10_printLoop_1 rfl rfl ?_
    refine q_getR hC (by decide) (by decide) rfl w_133 dX10_printLoop_2 (fun r1 => ?_)
    refine q_cVV hC hnt (stk := []) (as := [.ref r1]) sX10_survey (ci := 10) (by decide) rfl nX10_survey rfl w_552 w_554 w_555 w_27 w_553 (Nat.le_of_ble_eq_true rfl) dX10_printLoop_5 rfl ?_
    refine q_aload_n hC 0 dX10_printLoop_8 rfl rfl ?_
    refine q_iload_n hC 1 dX10_printLoop_9 rfl rfl ?_
    refine q_cVV hC hnt (stk := []) (as := [.int x1]) sX10_needLoop (ci := 10) (by decide) rfl nX10_needLoop rfl w_660 w_662 w_663 w_27 w_661 (Nat.le_of_ble_eq_true rfl) dX10_printLoop_10 rfl ?_
    refine q_aload_n hC 0 dX10_printLoop_13 rfl rfl ?_
    refine q_getR hC (by decide) (by decide) rfl w_129 dX10_printLoop_14 (fun r2 => ?_)
    refine q_iconst hC dX10_printLoop_17 rfl ?_
    refine q_putI hC (by decide) (by decide) rfl rfl w_192 dX10_printLoop_18 ?_
    refine q_aload_n hC 0 dX10_printLoop_21 rfl rfl ?_
    refine q_getR hC (by decide) (by decide) rfl w_160 dX10_printLoop_22 (fun r3 => ?_)
    refine q_getR hC (by decide) (by decide) rfl w_665 dX10_printLoop_25 (fun r4 => ?_)
    refine q_iload_n hC 1 dX10_printLoop_28 rfl rfl ?_
    refine q_cSI hC hnt (stk := []) (as := [.ref r4, .int x1]) sX10_cell nX10_cell rfl w_408 w_202 w_27 w_201 (Nat.le_of_ble_eq_true rfl) dX10_printLoop_29 rfl (fun v5 => ?_)
    refine q_istore_nA hC (loc' := [(2, .int v5), (0, .ref x0), (1, .int x1)]) dX10_printLoop_32 rfl (Nat.le_of_ble_eq_true rfl) rfl ?_
    refine q_iconst hC dX10_printLoop_33 rfl ?_
    refine q_istore_nA hC (loc' := [(3, .int 0), (2, .int v5), (0, .ref x0), (1, .int x1)]) dX10_printLoop_34 rfl (Nat.le_of_ble_eq_true rfl) rfl ?_
    exact c_sub [2, 3, 1, 0] rfl (hJ 1 [.ref x0, .int x1, .int v5, .int 0])
  · exact c_no
theorem pX10_printLoop_1 {Γ : CT} (hC : Ctx Γ "SpiritWall" cX10_printLoop 4 (some .int) rmX10_printLoop) (hnt : NT Γ) (J : JT) (hJ : ∀ L a, Cor Γ 4 (lX10_printLoop L a).1 (lX10_printLoop L a).2.1 (lX10_printLoop L a).2.2.1 (lX10_printLoop L a).2.2.2.1 (lX10_printLoop L a).2.2.2.2 (J L a)) (a : List Value) : Cor Γ 4 1 6 35 (List.zip [0, 1, 2, 3] a) [] (bX10_printLoop_1 J a) := by
  unfold bX10_printLoop_1
  split
  · rename_i x0 x1 x2 x3
    refine c_sub [0, 1, 2, 3] rfl (loc' := [(0, .ref x0), (1, .int x1), (2, .int x2), (3, .int x3)]) ?_
    refine q_iload_n hC 3 dX10_printLoop_35 rfl rfl ?_
    refine q_iload_n hC 2 dX10_printLoop_36 rfl rfl ?_
    refine q_ic_ge hC 79 dX10_printLoop_37 rfl ?_ ?_
    · refine q_aload_n hC 0 dX10_printLoop_79 rfl rfl ?_
      refine q_getR hC (by decide) (by decide) rfl w_129 dX10_printLoop_80 (fun r1 => ?_)
      refine q_bipush hC (v := 32) dX10_printLoop_83 rfl ?_
      refine q_cVV hC hnt (stk := []) (as := [.int 32]) sX7_add (ci := 7) (by decide) rfl nX7_add rfl w_791 w_190 w_191 w_127 w_189 (Nat.le_of_ble_eq_true rfl) dX10_printLoop_85 rfl ?_
      refine q_aload_n hC 0 dX10_printLoop_88 rfl rfl ?_
      refine q_getR hC (by decide) (by decide) rfl w_129 dX10_printLoop_89 (fun r2 => ?_)
      refine q_aload_n hC 0 dX10_printLoop_92 rfl rfl ?_
      refine q_getR hC (by decide) (by decide) rfl w_160 dX10_printLoop_93 (fun r3 => ?_)
      refine q_getR hC (by decide) (by decide) rfl w_667 dX10_printLoop_96 (fun r4 => ?_)
      refine q_iload_n hC 1 dX10_printLoop_99 rfl rfl ?_
      refine q_cSI hC hnt (stk := [.ref r2]) (as := [.ref r4, .int x1]) sX10_cell nX10_cell rfl w_408 w_202 w_27 w_201 (Nat.le_of_ble_eq_true rfl) dX10_printLoop_100 rfl (fun v5 => ?_)
      refine q_cVV hC hnt (stk := []) (as := [.int v5]) sX7_addNumber (ci := 7) (by decide) rfl nX7_addNumber rfl w_797 w_799 w_800 w_127 w_798 (Nat.le_of_ble_eq_true rfl) dX10_printLoop_103 rfl ?_
      refine q_aload_n hC 0 dX10_printLoop_106 rfl rfl ?_
      refine q_getR hC (by decide) (by decide) rfl w_160 dX10_printLoop_107 (fun r6 => ?_)
      refine q_iload_n hC 1 dX10_printLoop_110 rfl rfl ?_
      refine q_aload_n hC 0 dX10_printLoop_111 rfl rfl ?_
      refine q_getR hC (by decide) (by decide) rfl w_133 dX10_printLoop_112 (fun r7 => ?_)
      refine q_iconst hC dX10_printLoop_115 rfl ?_
      refine q_cVI hC hnt (stk := [.int x1, .ref r6]) (as := [.int 3]) sX6_settingOf (ci := 6) (by decide) rfl nX6_settingOf rfl w_544 w_355 w_356 w_35 w_354 (Nat.le_of_ble_eq_true rfl) dX10_printLoop_116 rfl (fun v8 => ?_)
      refine q_cVI hC hnt (stk := []) (as := [.int x1, .int v8]) sX4_closes (ci := 4) (by decide) rfl nX4_closes rfl w_668 w_530 w_531 w_159 w_529 (Nat.le_of_ble_eq_true rfl) dX10_printLoop_119 rfl (fun v9 => ?_)
      refine q_if_ne hC 134 dX10_printLoop_122 rfl ?_ ?_
      · refine q_aload_n hC 0 dX10_printLoop_134 rfl rfl ?_
        refine q_getR hC (by decide) (by decide) rfl w_129 dX10_printLoop_135 (fun r10 => ?_)
        refine q_getI hC (by decide) (by decide) rfl w_192 dX10_printLoop_138 (fun v11 => ?_)
        exact q_iret hC dX10_printLoop_141 (Nat.le_of_ble_eq_true rfl) (Nat.le_of_ble_eq_true rfl)
      · refine q_aload_n hC 0 dX10_printLoop_125 rfl rfl ?_
        refine q_getR hC (by decide) (by decide) rfl w_129 dX10_printLoop_126 (fun r12 => ?_)
        refine q_bipush hC (v := 33) dX10_printLoop_129 rfl ?_
        refine q_cVV hC hnt (stk := []) (as := [.int 33]) sX7_add (ci := 7) (by decide) rfl nX7_add rfl w_791 w_190 w_191 w_127 w_189 (Nat.le_of_ble_eq_true rfl) dX10_printLoop_131 rfl ?_
        refine q_aload_n hC 0 dX10_printLoop_134 rfl rfl ?_
        refine q_getR hC (by decide) (by decide) rfl w_129 dX10_printLoop_135 (fun r13 => ?_)
        refine q_getI hC (by decide) (by decide) rfl w_192 dX10_printLoop_138 (fun v14 => ?_)
        exact q_iret hC dX10_printLoop_141 (Nat.le_of_ble_eq_true rfl) (Nat.le_of_ble_eq_true rfl)
    · refine q_iload_n hC 3 dX10_printLoop_40 rfl rfl ?_
      refine q_if_le hC 53 dX10_printLoop_41 rfl ?_ ?_
      · refine q_aload_n hC 0 dX10_printLoop_53 rfl rfl ?_
        refine q_getR hC (by decide) (by decide) rfl w_131 dX10_printLoop_54 (fun r15 => ?_)
        refine q_aload_n hC 0 dX10_printLoop_57 rfl rfl ?_
        refine q_getR hC (by decide) (by decide) rfl w_160 dX10_printLoop_58 (fun r16 => ?_)
        refine q_iload_n hC 1 dX10_printLoop_61 rfl rfl ?_
        refine q_iload_n hC 3 dX10_printLoop_62 rfl rfl ?_
        refine q_cVI hC hnt (stk := [.ref r15]) (as := [.int x1, .int x3]) sX4_markAt (ci := 4) (by decide) rfl nX4_markAt rfl w_664 w_517 w_518 w_159 w_516 (Nat.le_of_ble_eq_true rfl) dX10_printLoop_63 rfl (fun v17 => ?_)
        refine q_aload_n hC 0 dX10_printLoop_66 rfl rfl ?_
        refine q_getR hC (by decide) (by decide) rfl w_129 dX10_printLoop_67 (fun r18 => ?_)
        refine q_cVV hC hnt (stk := []) (as := [.int v17, .ref r18]) sX9_writeName (ci := 9) (by decide) rfl nX9_writeName rfl w_792 w_794 w_795 w_65 w_793 (Nat.le_of_ble_eq_true rfl) dX10_printLoop_70 rfl ?_
        refine q_iincA hC (loc' := [(3, .int (x3 + 1)), (0, .ref x0), (1, .int x1), (2, .int x2)]) 3 1 dX10_printLoop_73 rfl rfl (Nat.le_of_ble_eq_true rfl) rfl ?_
        refine q_goto hC 35 dX10_printLoop_76 rfl ?_
        exact c_sub [1, 2, 3, 0] rfl (hJ 1 [.ref x0, .int x1, .int x2, .int (x3 + 1)])
      · refine q_aload_n hC 0 dX10_printLoop_44 rfl rfl ?_
        refine q_getR hC (by decide) (by decide) rfl w_129 dX10_printLoop_45 (fun r19 => ?_)
        refine q_bipush hC (v := 47) dX10_printLoop_48 rfl ?_
        refine q_cVV hC hnt (stk := []) (as := [.int 47]) sX7_add (ci := 7) (by decide) rfl nX7_add rfl w_791 w_190 w_191 w_127 w_189 (Nat.le_of_ble_eq_true rfl) dX10_printLoop_50 rfl ?_
        refine q_aload_n hC 0 dX10_printLoop_53 rfl rfl ?_
        refine q_getR hC (by decide) (by decide) rfl w_131 dX10_printLoop_54 (fun r20 => ?_)
        refine q_aload_n hC 0 dX10_printLoop_57 rfl rfl ?_
        refine q_getR hC (by decide) (by decide) rfl w_160 dX10_printLoop_58 (fun r21 => ?_)
        refine q_iload_n hC 1 dX10_printLoop_61 rfl rfl ?_
        refine q_iload_n hC 3 dX10_printLoop_62 rfl rfl ?_
        refine q_cVI hC hnt (stk := [.ref r20]) (as := [.int x1, .int x3]) sX4_markAt (ci := 4) (by decide) rfl nX4_markAt rfl w_664 w_517 w_518 w_159 w_516 (Nat.le_of_ble_eq_true rfl) dX10_printLoop_63 rfl (fun v22 => ?_)
        refine q_aload_n hC 0 dX10_printLoop_66 rfl rfl ?_
        refine q_getR hC (by decide) (by decide) rfl w_129 dX10_printLoop_67 (fun r23 => ?_)
        refine q_cVV hC hnt (stk := []) (as := [.int v22, .ref r23]) sX9_writeName (ci := 9) (by decide) rfl nX9_writeName rfl w_792 w_794 w_795 w_65 w_793 (Nat.le_of_ble_eq_true rfl) dX10_printLoop_70 rfl ?_
        refine q_iincA hC (loc' := [(3, .int (x3 + 1)), (0, .ref x0), (1, .int x1), (2, .int x2)]) 3 1 dX10_printLoop_73 rfl rfl (Nat.le_of_ble_eq_true rfl) rfl ?_
        refine q_goto hC 35 dX10_printLoop_76 rfl ?_
        exact c_sub [1, 2, 3, 0] rfl (hJ 1 [.ref x0, .int x1, .int x2, .int (x3 + 1)])
  · exact c_no
theorem sX10_printLoop : Snd yX10_printLoop (.code yX10_printLoop cX10_printLoop 4 (some .int)) rmX10_printLoop SX10_printLoop := by
  refine Snd.of lX10_printLoop (by decide +kernel) (fun _ => rfl) ?_
  intro Γ hC hnt hnm J hJ L a
  match L with
  | 0 => exact pX10_printLoop_0 hC hnt J hJ a
  | 1 => exact pX10_printLoop_1 hC hnt J hJ a
  | L + 2 => exact c_no
/-! SpiritWall$Text.addText(Ljava/lang/String;)V -/
theorem dX7_addText_0 : decode cX7_addText 0 = .ok (.iconst 0, 1) := by decide +kernel
theorem dX7_addText_1 : decode cX7_addText 1 = .ok (.istore_n 2, 1) := by decide +kernel
theorem dX7_addText_2 : decode cX7_addText 2 = .ok (.iload_n 2, 1) := by decide +kernel
theorem dX7_addText_3 : decode cX7_addText 3 = .ok (.aload_n 1, 1) := by decide +kernel
theorem dX7_addText_4 : decode cX7_addText 4 = .ok (.invokevirtual 31, 3) := by decide +kernel
theorem dX7_addText_7 : decode cX7_addText 7 = .ok (.if_icmp .ge 18, 3) := by decide +kernel
theorem dX7_addText_10 : decode cX7_addText 10 = .ok (.aload_n 0, 1) := by decide +kernel
theorem dX7_addText_11 : decode cX7_addText 11 = .ok (.aload_n 1, 1) := by decide +kernel
theorem dX7_addText_12 : decode cX7_addText 12 = .ok (.iload_n 2, 1) := by decide +kernel
theorem dX7_addText_13 : decode cX7_addText 13 = .ok (.invokevirtual 36, 3) := by decide +kernel
theorem dX7_addText_16 : decode cX7_addText 16 = .ok (.invokevirtual 27, 3) := by decide +kernel
theorem dX7_addText_19 : decode cX7_addText 19 = .ok (.iinc 2 1, 3) := by decide +kernel
theorem dX7_addText_22 : decode cX7_addText 22 = .ok (.goto (-20), 3) := by decide +kernel
theorem dX7_addText_25 : decode cX7_addText 25 = .ok (.return_, 1) := by decide +kernel
def rmX7_addText : Room := rmk 21 0 0 621
theorem nX7_addText : nameOk yX7_addText 1 = true := by decide +kernel
def bX7_addText_0 (J : JT) : List Value → Sem
  | [.ref x0, .ref x1] =>
    J 1 [.ref x0, .ref x1, .int 0]
  | _ => no
def bX7_addText_1 (J : JT) : List Value → Sem
  | [.ref x0, .ref x1, .int x2] =>
    obS x1 (cI SJ_length [.ref x1] fun v1 =>
    br (v1 ≤ x2)
    (rV)
    (obS x1 (cI SJ_charAt [.ref x1, .int x2] fun v2 =>
    ob 7 x0 (cV SX7_add [.ref x0, .int v2] <|
    J 1 [.ref x0, .ref x1, .int (x2 + 1)]))))
  | _ => no
def bX7_addText (J : JT) : JT := fun L a => match L with
  | 0 => bX7_addText_0 J a
  | 1 => bX7_addText_1 J a
  | _ => no
def SX7_addText : ST := mk 3 bX7_addText
def lX7_addText (L : Nat) (a : List Value) : Nat × Nat × Nat × List (Nat × Value) × List Value := match L with
  | 0 => (0, 0, 0, lv_args 0 a, [])
  | 1 => (0, 0, 2, List.zip [0, 1, 2] a, [])
  | _ => (0, 0, 0, [], [])
theorem pX7_addText_0 {Γ : CT} (hC : Ctx Γ "SpiritWall$Text" cX7_addText 3 none rmX7_addText) (hnt : NT Γ) (J : JT) (hJ : ∀ L a, Cor Γ 3 (lX7_addText L a).1 (lX7_addText L a).2.1 (lX7_addText L a).2.2.1 (lX7_addText L a).2.2.2.1 (lX7_addText L a).2.2.2.2 (J L a)) (a : List Value) : Cor Γ 3 0 0 0 (lv_args 0 a) [] (bX7_addText_0 J a) := by
  unfold bX7_addText_0
  split
  · rename_i x0 x1
    refine c_sub [0, 1] rfl (loc' := [(0, .ref x0), (1, .ref x1)]) ?_
    refine q_iconst hC dX7_addText_0 rfl ?_
    refine q_istore_nA hC (loc' := [(2, .int 0), (0, .ref x0), (1, .ref x1)]) dX7_addText_1 rfl (Nat.le_of_ble_eq_true rfl) rfl ?_
    exact c_sub [1, 2, 0] rfl (hJ 1 [.ref x0, .ref x1, .int 0])
  · exact c_no
theorem pX7_addText_1 {Γ : CT} (hC : Ctx Γ "SpiritWall$Text" cX7_addText 3 none rmX7_addText) (hnt : NT Γ) (J : JT) (hJ : ∀ L a, Cor Γ 3 (lX7_addText L a).1 (lX7_addText L a).2.1 (lX7_addText L a).2.2.1 (lX7_addText L a).2.2.2.1 (lX7_addText L a).2.2.2.2 (J L a)) (a : List Value) : Cor Γ 3 0 0 2 (List.zip [0, 1, 2] a) [] (bX7_addText_1 J a) := by
  unfold bX7_addText_1
  split
  · rename_i x0 x1 x2
    refine c_sub [0, 1, 2] rfl (loc' := [(0, .ref x0), (1, .ref x1), (2, .int x2)]) ?_
    refine q_iload_n hC 2 dX7_addText_2 rfl rfl ?_
    refine q_aload_n hC 1 dX7_addText_3 rfl rfl ?_
    refine q_cTI hC hnt (stk := [.int x2]) (as := []) sJ0_length_8abf5 rfl nJ0_length_8abf5 rfl w_801 w_40 w_41 w_42 w_39 (Nat.le_of_ble_eq_true rfl) dX7_addText_4 rfl (fun v1 => ?_)
    refine q_ic_ge hC 25 dX7_addText_7 rfl ?_ ?_
    · exact q_vret hC dX7_addText_25 (Nat.le_of_ble_eq_true rfl) (Nat.le_of_ble_eq_true rfl)
    · refine q_aload_n hC 0 dX7_addText_10 rfl rfl ?_
      refine q_aload_n hC 1 dX7_addText_11 rfl rfl ?_
      refine q_iload_n hC 2 dX7_addText_12 rfl rfl ?_
      refine q_cTI hC hnt (stk := [.ref x0]) (as := [.int x2]) sJ0_charAt_5068e rfl nJ0_charAt_5068e rfl w_802 w_45 w_46 w_42 w_44 (Nat.le_of_ble_eq_true rfl) dX7_addText_13 rfl (fun v2 => ?_)
      refine q_cVV hC hnt (stk := []) (as := [.int v2]) sX7_add (ci := 7) (by decide) rfl nX7_add rfl w_188 w_190 w_191 w_127 w_189 (Nat.le_of_ble_eq_true rfl) dX7_addText_16 rfl ?_
      refine q_iincA hC (loc' := [(2, .int (x2 + 1)), (0, .ref x0), (1, .ref x1)]) 2 1 dX7_addText_19 rfl rfl (Nat.le_of_ble_eq_true rfl) rfl ?_
      refine q_goto hC 2 dX7_addText_22 rfl ?_
      exact c_sub [1, 2, 0] rfl (hJ 1 [.ref x0, .ref x1, .int (x2 + 1)])
  · exact c_no
theorem sX7_addText : Snd yX7_addText (.code yX7_addText cX7_addText 3 none) rmX7_addText SX7_addText := by
  refine Snd.of lX7_addText (by decide +kernel) (fun _ => rfl) ?_
  intro Γ hC hnt hnm J hJ L a
  match L with
  | 0 => exact pX7_addText_0 hC hnt J hJ a
  | 1 => exact pX7_addText_1 hC hnt J hJ a
  | L + 2 => exact c_no
/-! SpiritWall.printSight(I)I -/
theorem dX10_printSight_0 : decode cX10_printSight 0 = .ok (.aload_n 0, 1) := by decide +kernel
theorem dX10_printSight_1 : decode cX10_printSight 1 = .ok (.iload_n 1, 1) := by decide +kernel
theorem dX10_printSight_2 : decode cX10_printSight 2 = .ok (.invokevirtual 221, 3) := by decide +kernel
theorem dX10_printSight_5 : decode cX10_printSight 5 = .ok (.aload_n 0, 1) := by decide +kernel
theorem dX10_printSight_6 : decode cX10_printSight 6 = .ok (.getfield 18, 3) := by decide +kernel
theorem dX10_printSight_9 : decode cX10_printSight 9 = .ok (.iconst 0, 1) := by decide +kernel
theorem dX10_printSight_10 : decode cX10_printSight 10 = .ok (.putfield 102, 3) := by decide +kernel
theorem dX10_printSight_13 : decode cX10_printSight 13 = .ok (.aload_n 0, 1) := by decide +kernel
theorem dX10_printSight_14 : decode cX10_printSight 14 = .ok (.getfield 31, 3) := by decide +kernel
theorem dX10_printSight_17 : decode cX10_printSight 17 = .ok (.iload_n 1, 1) := by decide +kernel
theorem dX10_printSight_18 : decode cX10_printSight 18 = .ok (.invokevirtual 340, 3) := by decide +kernel
theorem dX10_printSight_21 : decode cX10_printSight 21 = .ok (.ifCond .ne 13, 3) := by decide +kernel
theorem dX10_printSight_24 : decode cX10_printSight 24 = .ok (.aload_n 0, 1) := by decide +kernel
theorem dX10_printSight_25 : decode cX10_printSight 25 = .ok (.getfield 18, 3) := by decide +kernel
theorem dX10_printSight_28 : decode cX10_printSight 28 = .ok (.ldc_w 413, 3) := by decide +kernel
theorem dX10_printSight_31 : decode cX10_printSight 31 = .ok (.invokevirtual 415, 3) := by decide +kernel
theorem dX10_printSight_34 : decode cX10_printSight 34 = .ok (.aload_n 0, 1) := by decide +kernel
theorem dX10_printSight_35 : decode cX10_printSight 35 = .ok (.getfield 18, 3) := by decide +kernel
theorem dX10_printSight_38 : decode cX10_printSight 38 = .ok (.ldc_w 418, 3) := by decide +kernel
theorem dX10_printSight_41 : decode cX10_printSight 41 = .ok (.invokevirtual 415, 3) := by decide +kernel
theorem dX10_printSight_44 : decode cX10_printSight 44 = .ok (.aload_n 0, 1) := by decide +kernel
theorem dX10_printSight_45 : decode cX10_printSight 45 = .ok (.getfield 24, 3) := by decide +kernel
theorem dX10_printSight_48 : decode cX10_printSight 48 = .ok (.aload_n 0, 1) := by decide +kernel
theorem dX10_printSight_49 : decode cX10_printSight 49 = .ok (.getfield 31, 3) := by decide +kernel
theorem dX10_printSight_52 : decode cX10_printSight 52 = .ok (.getfield 224, 3) := by decide +kernel
theorem dX10_printSight_55 : decode cX10_printSight 55 = .ok (.iload_n 1, 1) := by decide +kernel
theorem dX10_printSight_56 : decode cX10_printSight 56 = .ok (.invokestatic 190, 3) := by decide +kernel
theorem dX10_printSight_59 : decode cX10_printSight 59 = .ok (.aload_n 0, 1) := by decide +kernel
theorem dX10_printSight_60 : decode cX10_printSight 60 = .ok (.getfield 18, 3) := by decide +kernel
theorem dX10_printSight_63 : decode cX10_printSight 63 = .ok (.invokevirtual 403, 3) := by decide +kernel
theorem dX10_printSight_66 : decode cX10_printSight 66 = .ok (.aload_n 0, 1) := by decide +kernel
theorem dX10_printSight_67 : decode cX10_printSight 67 = .ok (.getfield 18, 3) := by decide +kernel
theorem dX10_printSight_70 : decode cX10_printSight 70 = .ok (.bipush 32, 2) := by decide +kernel
theorem dX10_printSight_72 : decode cX10_printSight 72 = .ok (.invokevirtual 401, 3) := by decide +kernel
theorem dX10_printSight_75 : decode cX10_printSight 75 = .ok (.aload_n 0, 1) := by decide +kernel
theorem dX10_printSight_76 : decode cX10_printSight 76 = .ok (.getfield 24, 3) := by decide +kernel
theorem dX10_printSight_79 : decode cX10_printSight 79 = .ok (.aload_n 0, 1) := by decide +kernel
theorem dX10_printSight_80 : decode cX10_printSight 80 = .ok (.getfield 31, 3) := by decide +kernel
theorem dX10_printSight_83 : decode cX10_printSight 83 = .ok (.getfield 227, 3) := by decide +kernel
theorem dX10_printSight_86 : decode cX10_printSight 86 = .ok (.iload_n 1, 1) := by decide +kernel
theorem dX10_printSight_87 : decode cX10_printSight 87 = .ok (.invokestatic 190, 3) := by decide +kernel
theorem dX10_printSight_90 : decode cX10_printSight 90 = .ok (.aload_n 0, 1) := by decide +kernel
theorem dX10_printSight_91 : decode cX10_printSight 91 = .ok (.getfield 18, 3) := by decide +kernel
theorem dX10_printSight_94 : decode cX10_printSight 94 = .ok (.invokevirtual 403, 3) := by decide +kernel
theorem dX10_printSight_97 : decode cX10_printSight 97 = .ok (.aload_n 0, 1) := by decide +kernel
theorem dX10_printSight_98 : decode cX10_printSight 98 = .ok (.getfield 18, 3) := by decide +kernel
theorem dX10_printSight_101 : decode cX10_printSight 101 = .ok (.aload_n 0, 1) := by decide +kernel
theorem dX10_printSight_102 : decode cX10_printSight 102 = .ok (.getfield 31, 3) := by decide +kernel
theorem dX10_printSight_105 : decode cX10_printSight 105 = .ok (.getfield 230, 3) := by decide +kernel
theorem dX10_printSight_108 : decode cX10_printSight 108 = .ok (.iload_n 1, 1) := by decide +kernel
theorem dX10_printSight_109 : decode cX10_printSight 109 = .ok (.invokestatic 190, 3) := by decide +kernel
theorem dX10_printSight_112 : decode cX10_printSight 112 = .ok (.ifCond .ne 9, 3) := by decide +kernel
theorem dX10_printSight_115 : decode cX10_printSight 115 = .ok (.ldc_w 420, 3) := by decide +kernel
theorem dX10_printSight_118 : decode cX10_printSight 118 = .ok (.goto 6, 3) := by decide +kernel
theorem dX10_printSight_121 : decode cX10_printSight 121 = .ok (.ldc_w 422, 3) := by decide +kernel
theorem dX10_printSight_124 : decode cX10_printSight 124 = .ok (.invokevirtual 415, 3) := by decide +kernel
theorem dX10_printSight_127 : decode cX10_printSight 127 = .ok (.aload_n 0, 1) := by decide +kernel
theorem dX10_printSight_128 : decode cX10_printSight 128 = .ok (.getfield 18, 3) := by decide +kernel
theorem dX10_printSight_131 : decode cX10_printSight 131 = .ok (.aload_n 0, 1) := by decide +kernel
theorem dX10_printSight_132 : decode cX10_printSight 132 = .ok (.getfield 31, 3) := by decide +kernel
theorem dX10_printSight_135 : decode cX10_printSight 135 = .ok (.getfield 233, 3) := by decide +kernel
theorem dX10_printSight_138 : decode cX10_printSight 138 = .ok (.iload_n 1, 1) := by decide +kernel
theorem dX10_printSight_139 : decode cX10_printSight 139 = .ok (.invokestatic 190, 3) := by decide +kernel
theorem dX10_printSight_142 : decode cX10_printSight 142 = .ok (.invokevirtual 410, 3) := by decide +kernel
theorem dX10_printSight_145 : decode cX10_printSight 145 = .ok (.aload_n 0, 1) := by decide +kernel
theorem dX10_printSight_146 : decode cX10_printSight 146 = .ok (.getfield 18, 3) := by decide +kernel
theorem dX10_printSight_149 : decode cX10_printSight 149 = .ok (.ldc_w 424, 3) := by decide +kernel
theorem dX10_printSight_152 : decode cX10_printSight 152 = .ok (.invokevirtual 415, 3) := by decide +kernel
theorem dX10_printSight_155 : decode cX10_printSight 155 = .ok (.aload_n 0, 1) := by decide +kernel
theorem dX10_printSight_156 : decode cX10_printSight 156 = .ok (.getfield 18, 3) := by decide +kernel
theorem dX10_printSight_159 : decode cX10_printSight 159 = .ok (.aload_n 0, 1) := by decide +kernel
theorem dX10_printSight_160 : decode cX10_printSight 160 = .ok (.getfield 31, 3) := by decide +kernel
theorem dX10_printSight_163 : decode cX10_printSight 163 = .ok (.getfield 236, 3) := by decide +kernel
theorem dX10_printSight_166 : decode cX10_printSight 166 = .ok (.iload_n 1, 1) := by decide +kernel
theorem dX10_printSight_167 : decode cX10_printSight 167 = .ok (.invokestatic 190, 3) := by decide +kernel
theorem dX10_printSight_170 : decode cX10_printSight 170 = .ok (.invokevirtual 410, 3) := by decide +kernel
theorem dX10_printSight_173 : decode cX10_printSight 173 = .ok (.aload_n 0, 1) := by decide +kernel
theorem dX10_printSight_174 : decode cX10_printSight 174 = .ok (.getfield 18, 3) := by decide +kernel
theorem dX10_printSight_177 : decode cX10_printSight 177 = .ok (.getfield 102, 3) := by decide +kernel
theorem dX10_printSight_180 : decode cX10_printSight 180 = .ok (.ireturn, 1) := by decide +kernel
def rmX10_printSight : Room := rmk 22 1 6 643
theorem nX10_printSight : nameOk yX10_printSight 1 = true := by decide +kernel
def bX10_printSight_0 (J : JT) : List Value → Sem
  | [.ref x0, .int x1] =>
    ob 10 x0 (cV SX10_needSight [.ref x0, .int x1] <|
    gR 10 1 x0 fun r1 =>
    pI 7 1 r1 0 <|
    gR 10 3 x0 fun r2 =>
    ob 6 r2 (cI SX6_counts [.ref r2, .int x1] fun v3 =>
    br (v3 = 0)
    (gR 10 1 x0 fun r4 =>
    ob 7 r4 (cV SX7_addText [.ref r4, .ref 2012] <|
    J 1 [.ref x0, .int x1]))
    (J 1 [.ref x0, .int x1])))
  | _ => no
def bX10_printSight_1 (J : JT) : List Value → Sem
  | [.ref x0, .int x1] =>
    gR 10 1 x0 fun r1 =>
    ob 7 r1 (cV SX7_addText [.ref r1, .ref 2013] <|
    gR 10 2 x0 fun r2 =>
    gR 10 3 x0 fun r3 =>
    gR 6 7 r3 fun r4 =>
    cI SX10_cell [.ref r4, .int x1] fun v5 =>
    gR 10 1 x0 fun r6 =>
    ob 9 r2 (cV SX9_writeName [.ref r2, .int v5, .ref r6] <|
    gR 10 1 x0 fun r7 =>
    ob 7 r7 (cV SX7_add [.ref r7, .int 32] <|
    gR 10 2 x0 fun r8 =>
    gR 10 3 x0 fun r9 =>
    gR 6 8 r9 fun r10 =>
    cI SX10_cell [.ref r10, .int x1] fun v11 =>
    gR 10 1 x0 fun r12 =>
    ob 9 r8 (cV SX9_writeName [.ref r8, .int v11, .ref r12] <|
    gR 10 1 x0 fun r13 =>
    gR 10 3 x0 fun r14 =>
    gR 6 9 r14 fun r15 =>
    cI SX10_cell [.ref r15, .int x1] fun v16 =>
    br (v16 = 0)
    (ob 7 r13 (cV SX7_addText [.ref r13, .ref 2014] <|
    gR 10 1 x0 fun r28 =>
    gR 10 3 x0 fun r29 =>
    gR 6 10 r29 fun r30 =>
    cI SX10_cell [.ref r30, .int x1] fun v31 =>
    ob 7 r28 (cV SX7_addNumber [.ref r28, .int v31] <|
    gR 10 1 x0 fun r32 =>
    ob 7 r32 (cV SX7_addText [.ref r32, .ref 2016] <|
    gR 10 1 x0 fun r33 =>
    gR 10 3 x0 fun r34 =>
    gR 6 11 r34 fun r35 =>
    cI SX10_cell [.ref r35, .int x1] fun v36 =>
    ob 7 r33 (cV SX7_addNumber [.ref r33, .int v36] <|
    gR 10 1 x0 fun r37 =>
    gI 7 1 r37 fun v38 =>
    rI v38)))))
    (ob 7 r13 (cV SX7_addText [.ref r13, .ref 2015] <|
    gR 10 1 x0 fun r17 =>
    gR 10 3 x0 fun r18 =>
    gR 6 10 r18 fun r19 =>
    cI SX10_cell [.ref r19, .int x1] fun v20 =>
    ob 7 r17 (cV SX7_addNumber [.ref r17, .int v20] <|
    gR 10 1 x0 fun r21 =>
    ob 7 r21 (cV SX7_addText [.ref r21, .ref 2016] <|
    gR 10 1 x0 fun r22 =>
    gR 10 3 x0 fun r23 =>
    gR 6 11 r23 fun r24 =>
    cI SX10_cell [.ref r24, .int x1] fun v25 =>
    ob 7 r22 (cV SX7_addNumber [.ref r22, .int v25] <|
    gR 10 1 x0 fun r26 =>
    gI 7 1 r26 fun v27 =>
    rI v27)))))))))
  | _ => no
def bX10_printSight (J : JT) : JT := fun L a => match L with
  | 0 => bX10_printSight_0 J a
  | 1 => bX10_printSight_1 J a
  | _ => no
def SX10_printSight : ST := mk 2 bX10_printSight
def lX10_printSight (L : Nat) (a : List Value) : Nat × Nat × Nat × List (Nat × Value) × List Value := match L with
  | 0 => (0, 0, 0, lv_args 0 a, [])
  | 1 => (1, 6, 34, List.zip [0, 1] a, [])
  | _ => (0, 0, 0, [], [])
theorem pX10_printSight_0 {Γ : CT} (hC : Ctx Γ "SpiritWall" cX10_printSight 2 (some .int) rmX10_printSight) (hnt : NT Γ) (J : JT) (hJ : ∀ L a, Cor Γ 2 (lX10_printSight L a).1 (lX10_printSight L a).2.1 (lX10_printSight L a).2.2.1 (lX10_printSight L a).2.2.2.1 (lX10_printSight L a).2.2.2.2 (J L a)) (a : List Value) : Cor Γ 2 0 0 0 (lv_args 0 a) [] (bX10_printSight_0 J a) := by
  unfold bX10_printSight_0
  split
  · rename_i x0 x1
    refine c_sub [0, 1] rfl (loc' := [(0, .ref x0), (1, .int x1)]) ?_
    refine q_aload_n hC 0 dX10_printSight_0 rfl rfl ?_
    refine q_iload_n hC 1 dX10_printSight_1 rfl rfl ?_
    refine q_cVV hC hnt (stk := []) (as := [.int x1]) sX10_needSight (ci := 10) (by decide) rfl nX10_needSight rfl w_623 w_625 w_626 w_27 w_624 (Nat.le_of_ble_eq_true rfl) dX10_printSight_2 rfl ?_
    refine q_aload_n hC 0 dX10_printSight_5 rfl rfl ?_
    refine q_getR hC (by decide) (by decide) rfl w_129 dX10_printSight_6 (fun r1 => ?_)
    refine q_iconst hC dX10_printSight_9 rfl ?_
    refine q_putI hC (by decide) (by decide) rfl rfl w_192 dX10_printSight_10 ?_
    refine q_aload_n hC 0 dX10_printSight_13 rfl rfl ?_
    refine q_getR hC (by decide) (by decide) rfl w_133 dX10_printSight_14 (fun r2 => ?_)
    refine q_iload_n hC 1 dX10_printSight_17 rfl rfl ?_
    refine q_cVI hC hnt (stk := []) (as := [.int x1]) sX6_counts (ci := 6) (by decide) rfl nX6_counts rfl w_718 w_394 w_395 w_35 w_393 (Nat.le_of_ble_eq_true rfl) dX10_printSight_18 rfl (fun v3 => ?_)
    refine q_if_ne hC 34 dX10_printSight_21 rfl ?_ ?_
    · exact c_sub [0, 1] rfl (hJ 1 [.ref x0, .int x1])
    · refine q_aload_n hC 0 dX10_printSight_24 rfl rfl ?_
      refine q_getR hC (by decide) (by decide) rfl w_129 dX10_printSight_25 (fun r4 => ?_)
      refine q_ldcSw hC (i := 12) (tx := "- ") (by decide +kernel) dX10_printSight_28 ?_
      refine q_cVV hC hnt (stk := []) (as := [.ref 2012]) sX7_addText (ci := 7) (by decide) rfl nX7_addText rfl w_803 w_805 w_806 w_127 w_804 (Nat.le_of_ble_eq_true rfl) dX10_printSight_31 rfl ?_
      exact c_sub [0, 1] rfl (hJ 1 [.ref x0, .int x1])
  · exact c_no
theorem pX10_printSight_1 {Γ : CT} (hC : Ctx Γ "SpiritWall" cX10_printSight 2 (some .int) rmX10_printSight) (hnt : NT Γ) (J : JT) (hJ : ∀ L a, Cor Γ 2 (lX10_printSight L a).1 (lX10_printSight L a).2.1 (lX10_printSight L a).2.2.1 (lX10_printSight L a).2.2.2.1 (lX10_printSight L a).2.2.2.2 (J L a)) (a : List Value) : Cor Γ 2 1 6 34 (List.zip [0, 1] a) [] (bX10_printSight_1 J a) := by
  unfold bX10_printSight_1
  split
  · rename_i x0 x1
    refine c_sub [0, 1] rfl (loc' := [(0, .ref x0), (1, .int x1)]) ?_
    refine q_aload_n hC 0 dX10_printSight_34 rfl rfl ?_
    refine q_getR hC (by decide) (by decide) rfl w_129 dX10_printSight_35 (fun r1 => ?_)
    refine q_ldcSw hC (i := 13) (tx := "sight ") (by decide +kernel) dX10_printSight_38 ?_
    refine q_cVV hC hnt (stk := []) (as := [.ref 2013]) sX7_addText (ci := 7) (by decide) rfl nX7_addText rfl w_803 w_805 w_806 w_127 w_804 (Nat.le_of_ble_eq_true rfl) dX10_printSight_41 rfl ?_
    refine q_aload_n hC 0 dX10_printSight_44 rfl rfl ?_
    refine q_getR hC (by decide) (by decide) rfl w_131 dX10_printSight_45 (fun r2 => ?_)
    refine q_aload_n hC 0 dX10_printSight_48 rfl rfl ?_
    refine q_getR hC (by decide) (by decide) rfl w_133 dX10_printSight_49 (fun r3 => ?_)
    refine q_getR hC (by decide) (by decide) rfl w_627 dX10_printSight_52 (fun r4 => ?_)
    refine q_iload_n hC 1 dX10_printSight_55 rfl rfl ?_
    refine q_cSI hC hnt (stk := [.ref r2]) (as := [.ref r4, .int x1]) sX10_cell nX10_cell rfl w_408 w_202 w_27 w_201 (Nat.le_of_ble_eq_true rfl) dX10_printSight_56 rfl (fun v5 => ?_)
    refine q_aload_n hC 0 dX10_printSight_59 rfl rfl ?_
    refine q_getR hC (by decide) (by decide) rfl w_129 dX10_printSight_60 (fun r6 => ?_)
    refine q_cVV hC hnt (stk := []) (as := [.int v5, .ref r6]) sX9_writeName (ci := 9) (by decide) rfl nX9_writeName rfl w_792 w_794 w_795 w_65 w_793 (Nat.le_of_ble_eq_true rfl) dX10_printSight_63 rfl ?_
    refine q_aload_n hC 0 dX10_printSight_66 rfl rfl ?_
    refine q_getR hC (by decide) (by decide) rfl w_129 dX10_printSight_67 (fun r7 => ?_)
    refine q_bipush hC (v := 32) dX10_printSight_70 rfl ?_
    refine q_cVV hC hnt (stk := []) (as := [.int 32]) sX7_add (ci := 7) (by decide) rfl nX7_add rfl w_791 w_190 w_191 w_127 w_189 (Nat.le_of_ble_eq_true rfl) dX10_printSight_72 rfl ?_
    refine q_aload_n hC 0 dX10_printSight_75 rfl rfl ?_
    refine q_getR hC (by decide) (by decide) rfl w_131 dX10_printSight_76 (fun r8 => ?_)
    refine q_aload_n hC 0 dX10_printSight_79 rfl rfl ?_
    refine q_getR hC (by decide) (by decide) rfl w_133 dX10_printSight_80 (fun r9 => ?_)
    refine q_getR hC (by decide) (by decide) rfl w_628 dX10_printSight_83 (fun r10 => ?_)
    refine q_iload_n hC 1 dX10_printSight_86 rfl rfl ?_
    refine q_cSI hC hnt (stk := [.ref r8]) (as := [.ref r10, .int x1]) sX10_cell nX10_cell rfl w_408 w_202 w_27 w_201 (Nat.le_of_ble_eq_true rfl) dX10_printSight_87 rfl (fun v11 => ?_)
    refine q_aload_n hC 0 dX10_printSight_90 rfl rfl ?_
    refine q_getR hC (by decide) (by decide) rfl w_129 dX10_printSight_91 (fun r12 => ?_)
    refine q_cVV hC hnt (stk := []) (as := [.int v11, .ref r12]) sX9_writeName (ci := 9) (by decide) rfl nX9_writeName rfl w_792 w_794 w_795 w_65 w_793 (Nat.le_of_ble_eq_true rfl) dX10_printSight_94 rfl ?_
    refine q_aload_n hC 0 dX10_printSight_97 rfl rfl ?_
    refine q_getR hC (by decide) (by decide) rfl w_129 dX10_printSight_98 (fun r13 => ?_)
    refine q_aload_n hC 0 dX10_printSight_101 rfl rfl ?_
    refine q_getR hC (by decide) (by decide) rfl w_133 dX10_printSight_102 (fun r14 => ?_)
    refine q_getR hC (by decide) (by decide) rfl w_629 dX10_printSight_105 (fun r15 => ?_)
    refine q_iload_n hC 1 dX10_printSight_108 rfl rfl ?_
    refine q_cSI hC hnt (stk := [.ref r13]) (as := [.ref r15, .int x1]) sX10_cell nX10_cell rfl w_408 w_202 w_27 w_201 (Nat.le_of_ble_eq_true rfl) dX10_printSight_109 rfl (fun v16 => ?_)
    refine q_if_ne hC 121 dX10_printSight_112 rfl ?_ ?_
    · refine q_ldcSw hC (i := 15) (tx := " back ") (by decide +kernel) dX10_printSight_121 ?_
      refine q_cVV hC hnt (stk := []) (as := [.ref 2015]) sX7_addText (ci := 7) (by decide) rfl nX7_addText rfl w_803 w_805 w_806 w_127 w_804 (Nat.le_of_ble_eq_true rfl) dX10_printSight_124 rfl ?_
      refine q_aload_n hC 0 dX10_printSight_127 rfl rfl ?_
      refine q_getR hC (by decide) (by decide) rfl w_129 dX10_printSight_128 (fun r17 => ?_)
      refine q_aload_n hC 0 dX10_printSight_131 rfl rfl ?_
      refine q_getR hC (by decide) (by decide) rfl w_133 dX10_printSight_132 (fun r18 => ?_)
      refine q_getR hC (by decide) (by decide) rfl w_630 dX10_printSight_135 (fun r19 => ?_)
      refine q_iload_n hC 1 dX10_printSight_138 rfl rfl ?_
      refine q_cSI hC hnt (stk := [.ref r17]) (as := [.ref r19, .int x1]) sX10_cell nX10_cell rfl w_408 w_202 w_27 w_201 (Nat.le_of_ble_eq_true rfl) dX10_printSight_139 rfl (fun v20 => ?_)
      refine q_cVV hC hnt (stk := []) (as := [.int v20]) sX7_addNumber (ci := 7) (by decide) rfl nX7_addNumber rfl w_797 w_799 w_800 w_127 w_798 (Nat.le_of_ble_eq_true rfl) dX10_printSight_142 rfl ?_
      refine q_aload_n hC 0 dX10_printSight_145 rfl rfl ?_
      refine q_getR hC (by decide) (by decide) rfl w_129 dX10_printSight_146 (fun r21 => ?_)
      refine q_ldcSw hC (i := 16) (tx := " heat ") (by decide +kernel) dX10_printSight_149 ?_
      refine q_cVV hC hnt (stk := []) (as := [.ref 2016]) sX7_addText (ci := 7) (by decide) rfl nX7_addText rfl w_803 w_805 w_806 w_127 w_804 (Nat.le_of_ble_eq_true rfl) dX10_printSight_152 rfl ?_
      refine q_aload_n hC 0 dX10_printSight_155 rfl rfl ?_
      refine q_getR hC (by decide) (by decide) rfl w_129 dX10_printSight_156 (fun r22 => ?_)
      refine q_aload_n hC 0 dX10_printSight_159 rfl rfl ?_
      refine q_getR hC (by decide) (by decide) rfl w_133 dX10_printSight_160 (fun r23 => ?_)
      refine q_getR hC (by decide) (by decide) rfl w_631 dX10_printSight_163 (fun r24 => ?_)
      refine q_iload_n hC 1 dX10_printSight_166 rfl rfl ?_
      refine q_cSI hC hnt (stk := [.ref r22]) (as := [.ref r24, .int x1]) sX10_cell nX10_cell rfl w_408 w_202 w_27 w_201 (Nat.le_of_ble_eq_true rfl) dX10_printSight_167 rfl (fun v25 => ?_)
      refine q_cVV hC hnt (stk := []) (as := [.int v25]) sX7_addNumber (ci := 7) (by decide) rfl nX7_addNumber rfl w_797 w_799 w_800 w_127 w_798 (Nat.le_of_ble_eq_true rfl) dX10_printSight_170 rfl ?_
      refine q_aload_n hC 0 dX10_printSight_173 rfl rfl ?_
      refine q_getR hC (by decide) (by decide) rfl w_129 dX10_printSight_174 (fun r26 => ?_)
      refine q_getI hC (by decide) (by decide) rfl w_192 dX10_printSight_177 (fun v27 => ?_)
      exact q_iret hC dX10_printSight_180 (Nat.le_of_ble_eq_true rfl) (Nat.le_of_ble_eq_true rfl)
    · refine q_ldcSw hC (i := 14) (tx := " fore ") (by decide +kernel) dX10_printSight_115 ?_
      refine q_goto hC 124 dX10_printSight_118 rfl ?_
      refine q_cVV hC hnt (stk := []) (as := [.ref 2014]) sX7_addText (ci := 7) (by decide) rfl nX7_addText rfl w_803 w_805 w_806 w_127 w_804 (Nat.le_of_ble_eq_true rfl) dX10_printSight_124 rfl ?_
      refine q_aload_n hC 0 dX10_printSight_127 rfl rfl ?_
      refine q_getR hC (by decide) (by decide) rfl w_129 dX10_printSight_128 (fun r28 => ?_)
      refine q_aload_n hC 0 dX10_printSight_131 rfl rfl ?_
      refine q_getR hC (by decide) (by decide) rfl w_133 dX10_printSight_132 (fun r29 => ?_)
      refine q_getR hC (by decide) (by decide) rfl w_630 dX10_printSight_135 (fun r30 => ?_)
      refine q_iload_n hC 1 dX10_printSight_138 rfl rfl ?_
      refine q_cSI hC hnt (stk := [.ref r28]) (as := [.ref r30, .int x1]) sX10_cell nX10_cell rfl w_408 w_202 w_27 w_201 (Nat.le_of_ble_eq_true rfl) dX10_printSight_139 rfl (fun v31 => ?_)
      refine q_cVV hC hnt (stk := []) (as := [.int v31]) sX7_addNumber (ci := 7) (by decide) rfl nX7_addNumber rfl w_797 w_799 w_800 w_127 w_798 (Nat.le_of_ble_eq_true rfl) dX10_printSight_142 rfl ?_
      refine q_aload_n hC 0 dX10_printSight_145 rfl rfl ?_
      refine q_getR hC (by decide) (by decide) rfl w_129 dX10_printSight_146 (fun r32 => ?_)
      refine q_ldcSw hC (i := 16) (tx := " heat ") (by decide +kernel) dX10_printSight_149 ?_
      refine q_cVV hC hnt (stk := []) (as := [.ref 2016]) sX7_addText (ci := 7) (by decide) rfl nX7_addText rfl w_803 w_805 w_806 w_127 w_804 (Nat.le_of_ble_eq_true rfl) dX10_printSight_152 rfl ?_
      refine q_aload_n hC 0 dX10_printSight_155 rfl rfl ?_
      refine q_getR hC (by decide) (by decide) rfl w_129 dX10_printSight_156 (fun r33 => ?_)
      refine q_aload_n hC 0 dX10_printSight_159 rfl rfl ?_
      refine q_getR hC (by decide) (by decide) rfl w_133 dX10_printSight_160 (fun r34 => ?_)
      refine q_getR hC (by decide) (by decide) rfl w_631 dX10_printSight_163 (fun r35 => ?_)
      refine q_iload_n hC 1 dX10_printSight_166 rfl rfl ?_
      refine q_cSI hC hnt (stk := [.ref r33]) (as := [.ref r35, .int x1]) sX10_cell nX10_cell rfl w_408 w_202 w_27 w_201 (Nat.le_of_ble_eq_true rfl) dX10_printSight_167 rfl (fun v36 => ?_)
      refine q_cVV hC hnt (stk := []) (as := [.int v36]) sX7_addNumber (ci := 7) (by decide) rfl nX7_addNumber rfl w_797 w_799 w_800 w_127 w_798 (Nat.le_of_ble_eq_true rfl) dX10_printSight_170 rfl ?_
      refine q_aload_n hC 0 dX10_printSight_173 rfl rfl ?_
      refine q_getR hC (by decide) (by decide) rfl w_129 dX10_printSight_174 (fun r37 => ?_)
      refine q_getI hC (by decide) (by decide) rfl w_192 dX10_printSight_177 (fun v38 => ?_)
      exact q_iret hC dX10_printSight_180 (Nat.le_of_ble_eq_true rfl) (Nat.le_of_ble_eq_true rfl)
  · exact c_no
theorem sX10_printSight : Snd yX10_printSight (.code yX10_printSight cX10_printSight 2 (some .int)) rmX10_printSight SX10_printSight := by
  refine Snd.of lX10_printSight (by decide +kernel) (fun _ => rfl) ?_
  intro Γ hC hnt hnm J hJ L a
  match L with
  | 0 => exact pX10_printSight_0 hC hnt J hJ a
  | 1 => exact pX10_printSight_1 hC hnt J hJ a
  | L + 2 => exact c_no
/-! SpiritWall.outputByte(I)I -/
theorem dX10_outputByte_0 : decode cX10_outputByte 0 = .ok (.aload_n 0, 1) := by decide +kernel
theorem dX10_outputByte_1 : decode cX10_outputByte 1 = .ok (.getfield 18, 3) := by decide +kernel
theorem dX10_outputByte_4 : decode cX10_outputByte 4 = .ok (.iload_n 1, 1) := by decide +kernel
theorem dX10_outputByte_5 : decode cX10_outputByte 5 = .ok (.invokevirtual 426, 3) := by decide +kernel
theorem dX10_outputByte_8 : decode cX10_outputByte 8 = .ok (.ireturn, 1) := by decide +kernel
def rmX10_outputByte : Room := rmk 8 0 0 192
theorem nX10_outputByte : nameOk yX10_outputByte 1 = true := by decide +kernel
def bX10_outputByte_0 (J : JT) : List Value → Sem
  | [.ref x0, .int x1] =>
    gR 10 1 x0 fun r1 =>
    ob 7 r1 (cI SX7_byteAt [.ref r1, .int x1] fun v2 =>
    rI v2)
  | _ => no
def bX10_outputByte (J : JT) : JT := fun L a => match L with
  | 0 => bX10_outputByte_0 J a
  | _ => no
def SX10_outputByte : ST := mk 2 bX10_outputByte
def lX10_outputByte (L : Nat) (a : List Value) : Nat × Nat × Nat × List (Nat × Value) × List Value := match L with
  | 0 => (0, 0, 0, lv_args 0 a, [])
  | _ => (0, 0, 0, [], [])
theorem pX10_outputByte_0 {Γ : CT} (hC : Ctx Γ "SpiritWall" cX10_outputByte 2 (some .int) rmX10_outputByte) (hnt : NT Γ) (J : JT) (hJ : ∀ L a, Cor Γ 2 (lX10_outputByte L a).1 (lX10_outputByte L a).2.1 (lX10_outputByte L a).2.2.1 (lX10_outputByte L a).2.2.2.1 (lX10_outputByte L a).2.2.2.2 (J L a)) (a : List Value) : Cor Γ 2 0 0 0 (lv_args 0 a) [] (bX10_outputByte_0 J a) := by
  unfold bX10_outputByte_0
  split
  · rename_i x0 x1
    refine c_sub [0, 1] rfl (loc' := [(0, .ref x0), (1, .int x1)]) ?_
    refine q_aload_n hC 0 dX10_outputByte_0 rfl rfl ?_
    refine q_getR hC (by decide) (by decide) rfl w_129 dX10_outputByte_1 (fun r1 => ?_)
    refine q_iload_n hC 1 dX10_outputByte_4 rfl rfl ?_
    refine q_cVI hC hnt (stk := []) (as := [.int x1]) sX7_byteAt (ci := 7) (by decide) rfl nX7_byteAt rfl w_807 w_218 w_219 w_127 w_217 (Nat.le_of_ble_eq_true rfl) dX10_outputByte_5 rfl (fun v2 => ?_)
    exact q_iret hC dX10_outputByte_8 (Nat.le_of_ble_eq_true rfl) (Nat.le_of_ble_eq_true rfl)
  · exact c_no
theorem sX10_outputByte : Snd yX10_outputByte (.code yX10_outputByte cX10_outputByte 2 (some .int)) rmX10_outputByte SX10_outputByte := by
  refine Snd.of lX10_outputByte (by decide +kernel) (fun _ => rfl) ?_
  intro Γ hC hnt hnm J hJ L a
  match L with
  | 0 => exact pX10_outputByte_0 hC hnt J hJ a
  | L + 1 => exact c_no
/-! SpiritWall.saveState()I -/
theorem dX10_saveState_0 : decode cX10_saveState 0 = .ok (.aload_n 0, 1) := by decide +kernel
theorem dX10_saveState_1 : decode cX10_saveState 1 = .ok (.getfield 38, 3) := by decide +kernel
theorem dX10_saveState_4 : decode cX10_saveState 4 = .ok (.aload_n 0, 1) := by decide +kernel
theorem dX10_saveState_5 : decode cX10_saveState 5 = .ok (.getfield 31, 3) := by decide +kernel
theorem dX10_saveState_8 : decode cX10_saveState 8 = .ok (.invokevirtual 126, 3) := by decide +kernel
theorem dX10_saveState_11 : decode cX10_saveState 11 = .ok (.aload_n 0, 1) := by decide +kernel
theorem dX10_saveState_12 : decode cX10_saveState 12 = .ok (.iconst 1, 1) := by decide +kernel
theorem dX10_saveState_13 : decode cX10_saveState 13 = .ok (.putfield 91, 3) := by decide +kernel
theorem dX10_saveState_16 : decode cX10_saveState 16 = .ok (.aload_n 0, 1) := by decide +kernel
theorem dX10_saveState_17 : decode cX10_saveState 17 = .ok (.getfield 31, 3) := by decide +kernel
theorem dX10_saveState_20 : decode cX10_saveState 20 = .ok (.getfield 142, 3) := by decide +kernel
theorem dX10_saveState_23 : decode cX10_saveState 23 = .ok (.ireturn, 1) := by decide +kernel
def rmX10_saveState : Room := rmk 8 0 0 193
theorem nX10_saveState : nameOk yX10_saveState 0 = true := by decide +kernel
def bX10_saveState_0 (J : JT) : List Value → Sem
  | [.ref x0] =>
    gR 10 5 x0 fun r1 =>
    gR 10 3 x0 fun r2 =>
    ob 6 r1 (cV SX6_copyFrom [.ref r1, .ref r2] <|
    pZ 10 12 x0 1 <|
    gR 10 3 x0 fun r3 =>
    gI 6 6 r3 fun v4 =>
    rI v4)
  | _ => no
def bX10_saveState (J : JT) : JT := fun L a => match L with
  | 0 => bX10_saveState_0 J a
  | _ => no
def SX10_saveState : ST := mk 1 bX10_saveState
def lX10_saveState (L : Nat) (a : List Value) : Nat × Nat × Nat × List (Nat × Value) × List Value := match L with
  | 0 => (0, 0, 0, lv_args 0 a, [])
  | _ => (0, 0, 0, [], [])
theorem pX10_saveState_0 {Γ : CT} (hC : Ctx Γ "SpiritWall" cX10_saveState 1 (some .int) rmX10_saveState) (hnt : NT Γ) (J : JT) (hJ : ∀ L a, Cor Γ 1 (lX10_saveState L a).1 (lX10_saveState L a).2.1 (lX10_saveState L a).2.2.1 (lX10_saveState L a).2.2.2.1 (lX10_saveState L a).2.2.2.2 (J L a)) (a : List Value) : Cor Γ 1 0 0 0 (lv_args 0 a) [] (bX10_saveState_0 J a) := by
  unfold bX10_saveState_0
  split
  · rename_i x0
    refine c_sub [0] rfl (loc' := [(0, .ref x0)]) ?_
    refine q_aload_n hC 0 dX10_saveState_0 rfl rfl ?_
    refine q_getR hC (by decide) (by decide) rfl w_135 dX10_saveState_1 (fun r1 => ?_)
    refine q_aload_n hC 0 dX10_saveState_4 rfl rfl ?_
    refine q_getR hC (by decide) (by decide) rfl w_133 dX10_saveState_5 (fun r2 => ?_)
    refine q_cVV hC hnt (stk := []) (as := [.ref r2]) sX6_copyFrom (ci := 6) (by decide) rfl nX6_copyFrom rfl w_341 w_343 w_344 w_35 w_342 (Nat.le_of_ble_eq_true rfl) dX10_saveState_8 rfl ?_
    refine q_aload_n hC 0 dX10_saveState_11 rfl rfl ?_
    refine q_iconst hC dX10_saveState_12 rfl ?_
    refine q_putZ hC (by decide) (by decide) rfl rfl w_166 dX10_saveState_13 ?_
    refine q_aload_n hC 0 dX10_saveState_16 rfl rfl ?_
    refine q_getR hC (by decide) (by decide) rfl w_133 dX10_saveState_17 (fun r3 => ?_)
    refine q_getI hC (by decide) (by decide) rfl w_560 dX10_saveState_20 (fun v4 => ?_)
    exact q_iret hC dX10_saveState_23 (Nat.le_of_ble_eq_true rfl) (Nat.le_of_ble_eq_true rfl)
  · exact c_no
theorem sX10_saveState : Snd yX10_saveState (.code yX10_saveState cX10_saveState 1 (some .int)) rmX10_saveState SX10_saveState := by
  refine Snd.of lX10_saveState (by decide +kernel) (fun _ => rfl) ?_
  intro Γ hC hnt hnm J hJ L a
  match L with
  | 0 => exact pX10_saveState_0 hC hnt J hJ a
  | L + 1 => exact c_no
/-! SpiritWall.restoreState()I -/
theorem dX10_restoreState_0 : decode cX10_restoreState 0 = .ok (.aload_n 0, 1) := by decide +kernel
theorem dX10_restoreState_1 : decode cX10_restoreState 1 = .ok (.getfield 91, 3) := by decide +kernel
theorem dX10_restoreState_4 : decode cX10_restoreState 4 = .ok (.ifCond .ne 14, 3) := by decide +kernel
theorem dX10_restoreState_7 : decode cX10_restoreState 7 = .ok (.new 361, 3) := by decide +kernel
theorem dX10_restoreState_10 : decode cX10_restoreState 10 = .ok (.dup, 1) := by decide +kernel
theorem dX10_restoreState_11 : decode cX10_restoreState 11 = .ok (.ldc_w 429, 3) := by decide +kernel
theorem dX10_restoreState_14 : decode cX10_restoreState 14 = .ok (.invokespecial 365, 3) := by decide +kernel
theorem dX10_restoreState_17 : decode cX10_restoreState 17 = .ok (.athrow, 1) := by decide +kernel
theorem dX10_restoreState_18 : decode cX10_restoreState 18 = .ok (.aload_n 0, 1) := by decide +kernel
theorem dX10_restoreState_19 : decode cX10_restoreState 19 = .ok (.getfield 31, 3) := by decide +kernel
theorem dX10_restoreState_22 : decode cX10_restoreState 22 = .ok (.aload_n 0, 1) := by decide +kernel
theorem dX10_restoreState_23 : decode cX10_restoreState 23 = .ok (.getfield 38, 3) := by decide +kernel
theorem dX10_restoreState_26 : decode cX10_restoreState 26 = .ok (.invokevirtual 126, 3) := by decide +kernel
theorem dX10_restoreState_29 : decode cX10_restoreState 29 = .ok (.aload_n 0, 1) := by decide +kernel
theorem dX10_restoreState_30 : decode cX10_restoreState 30 = .ok (.getfield 44, 3) := by decide +kernel
theorem dX10_restoreState_33 : decode cX10_restoreState 33 = .ok (.iconst 0, 1) := by decide +kernel
theorem dX10_restoreState_34 : decode cX10_restoreState 34 = .ok (.putfield 129, 3) := by decide +kernel
theorem dX10_restoreState_37 : decode cX10_restoreState 37 = .ok (.aload_n 0, 1) := by decide +kernel
theorem dX10_restoreState_38 : decode cX10_restoreState 38 = .ok (.getfield 31, 3) := by decide +kernel
theorem dX10_restoreState_41 : decode cX10_restoreState 41 = .ok (.getfield 142, 3) := by decide +kernel
theorem dX10_restoreState_44 : decode cX10_restoreState 44 = .ok (.ireturn, 1) := by decide +kernel
def rmX10_restoreState : Room := rmk 8 1 6 193
theorem nX10_restoreState : nameOk yX10_restoreState 0 = true := by decide +kernel
def bX10_restoreState_0 (J : JT) : List Value → Sem
  | [.ref x0] =>
    gI 10 12 x0 fun v1 =>
    br (v1 = 0)
    (thr 3)
    (gR 10 3 x0 fun r2 =>
    gR 10 5 x0 fun r3 =>
    ob 6 r2 (cV SX6_copyFrom [.ref r2, .ref r3] <|
    gR 10 6 x0 fun r4 =>
    pI 3 1 r4 0 <|
    gR 10 3 x0 fun r5 =>
    gI 6 6 r5 fun v6 =>
    rI v6))
  | _ => no
def bX10_restoreState (J : JT) : JT := fun L a => match L with
  | 0 => bX10_restoreState_0 J a
  | _ => no
def SX10_restoreState : ST := mk 1 bX10_restoreState
def lX10_restoreState (L : Nat) (a : List Value) : Nat × Nat × Nat × List (Nat × Value) × List Value := match L with
  | 0 => (0, 0, 0, lv_args 0 a, [])
  | _ => (0, 0, 0, [], [])
theorem pX10_restoreState_0 {Γ : CT} (hC : Ctx Γ "SpiritWall" cX10_restoreState 1 (some .int) rmX10_restoreState) (hnt : NT Γ) (J : JT) (hJ : ∀ L a, Cor Γ 1 (lX10_restoreState L a).1 (lX10_restoreState L a).2.1 (lX10_restoreState L a).2.2.1 (lX10_restoreState L a).2.2.2.1 (lX10_restoreState L a).2.2.2.2 (J L a)) (a : List Value) : Cor Γ 1 0 0 0 (lv_args 0 a) [] (bX10_restoreState_0 J a) := by
  unfold bX10_restoreState_0
  split
  · rename_i x0
    refine c_sub [0] rfl (loc' := [(0, .ref x0)]) ?_
    refine q_aload_n hC 0 dX10_restoreState_0 rfl rfl ?_
    refine q_getI hC (by decide) (by decide) rfl w_166 dX10_restoreState_1 (fun v1 => ?_)
    refine q_if_ne hC 18 dX10_restoreState_4 rfl ?_ ?_
    · refine q_aload_n hC 0 dX10_restoreState_18 rfl rfl ?_
      refine q_getR hC (by decide) (by decide) rfl w_133 dX10_restoreState_19 (fun r2 => ?_)
      refine q_aload_n hC 0 dX10_restoreState_22 rfl rfl ?_
      refine q_getR hC (by decide) (by decide) rfl w_135 dX10_restoreState_23 (fun r3 => ?_)
      refine q_cVV hC hnt (stk := []) (as := [.ref r3]) sX6_copyFrom (ci := 6) (by decide) rfl nX6_copyFrom rfl w_341 w_343 w_344 w_35 w_342 (Nat.le_of_ble_eq_true rfl) dX10_restoreState_26 rfl ?_
      refine q_aload_n hC 0 dX10_restoreState_29 rfl rfl ?_
      refine q_getR hC (by decide) (by decide) rfl w_140 dX10_restoreState_30 (fun r4 => ?_)
      refine q_iconst hC dX10_restoreState_33 rfl ?_
      refine q_putI hC (by decide) (by decide) rfl rfl w_345 dX10_restoreState_34 ?_
      refine q_aload_n hC 0 dX10_restoreState_37 rfl rfl ?_
      refine q_getR hC (by decide) (by decide) rfl w_133 dX10_restoreState_38 (fun r5 => ?_)
      refine q_getI hC (by decide) (by decide) rfl w_560 dX10_restoreState_41 (fun v6 => ?_)
      exact q_iret hC dX10_restoreState_44 (Nat.le_of_ble_eq_true rfl) (Nat.le_of_ble_eq_true rfl)
    · exact q_throwW hC (by decide) (by decide) (by decide +kernel) (i := 31) (tx := "no state is saved") (by decide +kernel) hnt dX10_restoreState_7 dX10_restoreState_10 dX10_restoreState_11 dX10_restoreState_14 dX10_restoreState_17 (Nat.le_of_ble_eq_true rfl) (Nat.le_of_ble_eq_true rfl) ⟨(Nat.le_of_ble_eq_true rfl), (Nat.le_of_ble_eq_true rfl)⟩
  · exact c_no
theorem sX10_restoreState : Snd yX10_restoreState (.code yX10_restoreState cX10_restoreState 1 (some .int)) rmX10_restoreState SX10_restoreState := by
  refine Snd.of lX10_restoreState (by decide +kernel) (fun _ => rfl) ?_
  intro Γ hC hnt hnm J hJ L a
  match L with
  | 0 => exact pX10_restoreState_0 hC hnt J hJ a
  | L + 1 => exact c_no
/-! SpiritWallModel.resets()V -/
theorem dX11_resets_0 : decode cX11_resets 0 = .ok (.iconst 0, 1) := by decide +kernel
theorem dX11_resets_1 : decode cX11_resets 1 = .ok (.istore_n 1, 1) := by decide +kernel
theorem dX11_resets_2 : decode cX11_resets 2 = .ok (.iload_n 1, 1) := by decide +kernel
theorem dX11_resets_3 : decode cX11_resets 3 = .ok (.sipush 308, 3) := by decide +kernel
theorem dX11_resets_6 : decode cX11_resets 6 = .ok (.if_icmp .ge 16, 3) := by decide +kernel
theorem dX11_resets_9 : decode cX11_resets 9 = .ok (.aload_n 0, 1) := by decide +kernel
theorem dX11_resets_10 : decode cX11_resets 10 = .ok (.getfield 7, 3) := by decide +kernel
theorem dX11_resets_13 : decode cX11_resets 13 = .ok (.iload_n 1, 1) := by decide +kernel
theorem dX11_resets_14 : decode cX11_resets 14 = .ok (.iconst 0, 1) := by decide +kernel
theorem dX11_resets_15 : decode cX11_resets 15 = .ok (.iastore, 1) := by decide +kernel
theorem dX11_resets_16 : decode cX11_resets 16 = .ok (.iinc 1 1, 3) := by decide +kernel
theorem dX11_resets_19 : decode cX11_resets 19 = .ok (.goto (-17), 3) := by decide +kernel
theorem dX11_resets_22 : decode cX11_resets 22 = .ok (.aload_n 0, 1) := by decide +kernel
theorem dX11_resets_23 : decode cX11_resets 23 = .ok (.getfield 7, 3) := by decide +kernel
theorem dX11_resets_26 : decode cX11_resets 26 = .ok (.iconst 2, 1) := by decide +kernel
theorem dX11_resets_27 : decode cX11_resets 27 = .ok (.sipush 1000, 3) := by decide +kernel
theorem dX11_resets_30 : decode cX11_resets 30 = .ok (.iastore, 1) := by decide +kernel
theorem dX11_resets_31 : decode cX11_resets 31 = .ok (.aload_n 0, 1) := by decide +kernel
theorem dX11_resets_32 : decode cX11_resets 32 = .ok (.getfield 7, 3) := by decide +kernel
theorem dX11_resets_35 : decode cX11_resets 35 = .ok (.iconst 5, 1) := by decide +kernel
theorem dX11_resets_36 : decode cX11_resets 36 = .ok (.bipush 10, 2) := by decide +kernel
theorem dX11_resets_38 : decode cX11_resets 38 = .ok (.iastore, 1) := by decide +kernel
theorem dX11_resets_39 : decode cX11_resets 39 = .ok (.return_, 1) := by decide +kernel
def rmX11_resets : Room := rmk 6 0 0 150
theorem nX11_resets : nameOk yX11_resets 0 = true := by decide +kernel
def bX11_resets_0 (J : JT) : List Value → Sem
  | [.ref x0] =>
    J 1 [.ref x0, .int 0]
  | _ => no
def bX11_resets_1 (J : JT) : List Value → Sem
  | [.ref x0, .int x1] =>
    br ((308 : Int32) ≤ x1)
    (gR 11 1 x0 fun r1 =>
    sA r1 2 1000 <|
    gR 11 1 x0 fun r2 =>
    sA r2 5 10 <|
    rV)
    (gR 11 1 x0 fun r3 =>
    sA r3 x1 0 <|
    J 1 [.ref x0, .int (x1 + 1)])
  | _ => no
def bX11_resets (J : JT) : JT := fun L a => match L with
  | 0 => bX11_resets_0 J a
  | 1 => bX11_resets_1 J a
  | _ => no
def SX11_resets : ST := mk 2 bX11_resets
def lX11_resets (L : Nat) (a : List Value) : Nat × Nat × Nat × List (Nat × Value) × List Value := match L with
  | 0 => (0, 0, 0, lv_args 0 a, [])
  | 1 => (0, 0, 2, List.zip [0, 1] a, [])
  | _ => (0, 0, 0, [], [])
theorem pX11_resets_0 {Γ : CT} (hC : Ctx Γ "SpiritWallModel" cX11_resets 2 none rmX11_resets) (hnt : NT Γ) (J : JT) (hJ : ∀ L a, Cor Γ 2 (lX11_resets L a).1 (lX11_resets L a).2.1 (lX11_resets L a).2.2.1 (lX11_resets L a).2.2.2.1 (lX11_resets L a).2.2.2.2 (J L a)) (a : List Value) : Cor Γ 2 0 0 0 (lv_args 0 a) [] (bX11_resets_0 J a) := by
  unfold bX11_resets_0
  split
  · rename_i x0
    refine c_sub [0] rfl (loc' := [(0, .ref x0)]) ?_
    refine q_iconst hC dX11_resets_0 rfl ?_
    refine q_istore_nA hC (loc' := [(1, .int 0), (0, .ref x0)]) dX11_resets_1 rfl (Nat.le_of_ble_eq_true rfl) rfl ?_
    exact c_sub [1, 0] rfl (hJ 1 [.ref x0, .int 0])
  · exact c_no
theorem pX11_resets_1 {Γ : CT} (hC : Ctx Γ "SpiritWallModel" cX11_resets 2 none rmX11_resets) (hnt : NT Γ) (J : JT) (hJ : ∀ L a, Cor Γ 2 (lX11_resets L a).1 (lX11_resets L a).2.1 (lX11_resets L a).2.2.1 (lX11_resets L a).2.2.2.1 (lX11_resets L a).2.2.2.2 (J L a)) (a : List Value) : Cor Γ 2 0 0 2 (List.zip [0, 1] a) [] (bX11_resets_1 J a) := by
  unfold bX11_resets_1
  split
  · rename_i x0 x1
    refine c_sub [0, 1] rfl (loc' := [(0, .ref x0), (1, .int x1)]) ?_
    refine q_iload_n hC 1 dX11_resets_2 rfl rfl ?_
    refine q_sipush hC (v := 308) dX11_resets_3 rfl ?_
    refine q_ic_ge hC 22 dX11_resets_6 rfl ?_ ?_
    · refine q_aload_n hC 0 dX11_resets_22 rfl rfl ?_
      refine q_getR hC (by decide) (by decide) rfl w_808 dX11_resets_23 (fun r1 => ?_)
      refine q_iconst hC dX11_resets_26 rfl ?_
      refine q_sipush hC (v := 1000) dX11_resets_27 rfl ?_
      refine q_iast hC dX11_resets_30 ?_
      refine q_aload_n hC 0 dX11_resets_31 rfl rfl ?_
      refine q_getR hC (by decide) (by decide) rfl w_808 dX11_resets_32 (fun r2 => ?_)
      refine q_iconst hC dX11_resets_35 rfl ?_
      refine q_bipush hC (v := 10) dX11_resets_36 rfl ?_
      refine q_iast hC dX11_resets_38 ?_
      exact q_vret hC dX11_resets_39 (Nat.le_of_ble_eq_true rfl) (Nat.le_of_ble_eq_true rfl)
    · refine q_aload_n hC 0 dX11_resets_9 rfl rfl ?_
      refine q_getR hC (by decide) (by decide) rfl w_808 dX11_resets_10 (fun r3 => ?_)
      refine q_iload_n hC 1 dX11_resets_13 rfl rfl ?_
      refine q_iconst hC dX11_resets_14 rfl ?_
      refine q_iast hC dX11_resets_15 ?_
      refine q_iincA hC (loc' := [(1, .int (x1 + 1)), (0, .ref x0)]) 1 1 dX11_resets_16 rfl rfl (Nat.le_of_ble_eq_true rfl) rfl ?_
      refine q_goto hC 2 dX11_resets_19 rfl ?_
      exact c_sub [1, 0] rfl (hJ 1 [.ref x0, .int (x1 + 1)])
  · exact c_no
theorem sX11_resets : Snd yX11_resets (.code yX11_resets cX11_resets 2 none) rmX11_resets SX11_resets := by
  refine Snd.of lX11_resets (by decide +kernel) (fun _ => rfl) ?_
  intro Γ hC hnt hnm J hJ L a
  match L with
  | 0 => exact pX11_resets_0 hC hnt J hJ a
  | 1 => exact pX11_resets_1 hC hnt J hJ a
  | L + 2 => exact c_no
