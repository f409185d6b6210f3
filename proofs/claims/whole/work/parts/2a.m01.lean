/-! SpiritWall$Text.<init>(I)V -/
theorem dX7_init_0 : decode cX7_init 0 = .ok (.aload_n 0, 1) := by decide +kernel
theorem dX7_init_1 : decode cX7_init 1 = .ok (.invokespecial 3, 3) := by decide +kernel
theorem dX7_init_4 : decode cX7_init 4 = .ok (.aload_n 0, 1) := by decide +kernel
theorem dX7_init_5 : decode cX7_init 5 = .ok (.iconst 0, 1) := by decide +kernel
theorem dX7_init_6 : decode cX7_init 6 = .ok (.putfield 9, 3) := by decide +kernel
theorem dX7_init_9 : decode cX7_init 9 = .ok (.aload_n 0, 1) := by decide +kernel
theorem dX7_init_10 : decode cX7_init 10 = .ok (.iload_n 1, 1) := by decide +kernel
theorem dX7_init_11 : decode cX7_init 11 = .ok (.ifCond .le 7, 3) := by decide +kernel
theorem dX7_init_14 : decode cX7_init 14 = .ok (.iload_n 1, 1) := by decide +kernel
theorem dX7_init_15 : decode cX7_init 15 = .ok (.goto 4, 3) := by decide +kernel
theorem dX7_init_18 : decode cX7_init 18 = .ok (.iconst 0, 1) := by decide +kernel
theorem dX7_init_19 : decode cX7_init 19 = .ok (.newarray .int, 2) := by decide +kernel
theorem dX7_init_21 : decode cX7_init 21 = .ok (.putfield 15, 3) := by decide +kernel
theorem dX7_init_24 : decode cX7_init 24 = .ok (.return_, 1) := by decide +kernel
def rmX7_init : Room := rmk 6 1 900 150
theorem nX7_init : nameOk yX7_init 1 = true := by decide +kernel
def bX7_init_0 (J : JT) : List Value → Sem
  | [.ref x0, .int x1] =>
    pI 7 1 x0 0 <|
    br (x1 ≤ 0)
    (nA 1 0 fun r1 =>
    pR 7 0 x0 (some r1) <|
    rV)
    (nB 1 900 x1 fun r2 =>
    pR 7 0 x0 (some r2) <|
    rV)
  | _ => no
def bX7_init (J : JT) : JT := fun L a => match L with
  | 0 => bX7_init_0 J a
  | _ => no
def SX7_init : ST := mk 2 bX7_init
def lX7_init (L : Nat) (a : List Value) : Nat × Nat × Nat × List (Nat × Value) × List Value := match L with
  | 0 => (0, 0, 0, lv_args 0 a, [])
  | _ => (0, 0, 0, [], [])
theorem pX7_init_0 {Γ : CT} (hC : Ctx Γ "SpiritWall$Text" cX7_init 2 none rmX7_init) (hnt : NT Γ) (hnm : (kMe Γ).name = "<init>") (J : JT) (hJ : ∀ L a, Cor Γ 2 (lX7_init L a).1 (lX7_init L a).2.1 (lX7_init L a).2.2.1 (lX7_init L a).2.2.2.1 (lX7_init L a).2.2.2.2 (J L a)) (a : List Value) : Cor Γ 2 0 0 0 (lv_args 0 a) [] (bX7_init_0 J a) := by
  unfold bX7_init_0
  split
  · rename_i x0 x1
    refine c_sub [0, 1] rfl (loc' := [(0, .ref x0), (1, .int x1)]) ?_
    refine q_aload_n hC 0 dX7_init_0 rfl rfl ?_
    refine q_oinit hC w_0 w_1 w_oinit ⟨(Nat.le_of_ble_eq_true rfl), (Nat.le_of_ble_eq_true rfl)⟩ dX7_init_1 ?_
    refine q_aload_n hC 0 dX7_init_4 rfl rfl ?_
    refine q_iconst hC dX7_init_5 rfl ?_
    refine q_putI hC (by decide) (by decide) rfl rfl w_2 dX7_init_6 ?_
    refine q_aload_n hC 0 dX7_init_9 rfl rfl ?_
    refine q_iload_n hC 1 dX7_init_10 rfl rfl ?_
    refine q_if_le hC 18 dX7_init_11 rfl ?_ ?_
    · refine q_iconst hC dX7_init_18 rfl ?_
      refine q_newa hC (atype := .int) (N := 0) (by decide) w_4 rfl (Nat.le_of_ble_eq_true rfl) ⟨(Nat.le_of_ble_eq_true rfl), (Nat.le_of_ble_eq_true rfl)⟩ dX7_init_19 (fun r1 => ?_)
      refine q_putR hC (by decide) (by decide) rfl (Or.inr ⟨hnm, rfl, rfl⟩) w_3 dX7_init_21 ?_
      exact q_vret hC dX7_init_24 (Nat.le_of_ble_eq_true rfl) (Nat.le_of_ble_eq_true rfl)
    · refine q_iload_n hC 1 dX7_init_14 rfl rfl ?_
      refine q_goto hC 19 dX7_init_15 rfl ?_
      refine q_newaB hC (atype := .int) (by decide) w_4 (Nat.le_of_ble_eq_true rfl) ⟨(Nat.le_of_ble_eq_true rfl), (Nat.le_of_ble_eq_true rfl)⟩ dX7_init_19 (fun r2 => ?_)
      refine q_putR hC (by decide) (by decide) rfl (Or.inr ⟨hnm, rfl, rfl⟩) w_3 dX7_init_21 ?_
      exact q_vret hC dX7_init_24 (Nat.le_of_ble_eq_true rfl) (Nat.le_of_ble_eq_true rfl)
  · exact c_no
theorem sX7_init : Snd yX7_init (.code yX7_init cX7_init 2 none) rmX7_init SX7_init := by
  refine Snd.of lX7_init (by decide +kernel) (fun _ => rfl) ?_
  intro Γ hC hnt hnm J hJ L a
  match L with
  | 0 => exact pX7_init_0 hC hnt hnm J hJ a
  | L + 1 => exact c_no
/-! SpiritWall$Wall.<init>()V -/
theorem dX9_init_0 : decode cX9_init 0 = .ok (.aload_n 0, 1) := by decide +kernel
theorem dX9_init_1 : decode cX9_init 1 = .ok (.invokespecial 3, 3) := by decide +kernel
theorem dX9_init_4 : decode cX9_init 4 = .ok (.aload_n 0, 1) := by decide +kernel
theorem dX9_init_5 : decode cX9_init 5 = .ok (.iconst 0, 1) := by decide +kernel
theorem dX9_init_6 : decode cX9_init 6 = .ok (.putfield 9, 3) := by decide +kernel
theorem dX9_init_9 : decode cX9_init 9 = .ok (.aload_n 0, 1) := by decide +kernel
theorem dX9_init_10 : decode cX9_init 10 = .ok (.bipush 12, 2) := by decide +kernel
theorem dX9_init_12 : decode cX9_init 12 = .ok (.newarray .int, 2) := by decide +kernel
theorem dX9_init_14 : decode cX9_init 14 = .ok (.putfield 15, 3) := by decide +kernel
theorem dX9_init_17 : decode cX9_init 17 = .ok (.aload_n 0, 1) := by decide +kernel
theorem dX9_init_18 : decode cX9_init 18 = .ok (.bipush 12, 2) := by decide +kernel
theorem dX9_init_20 : decode cX9_init 20 = .ok (.newarray .int, 2) := by decide +kernel
theorem dX9_init_22 : decode cX9_init 22 = .ok (.putfield 19, 3) := by decide +kernel
theorem dX9_init_25 : decode cX9_init 25 = .ok (.return_, 1) := by decide +kernel
def rmX9_init : Room := rmk 6 2 24 150
theorem nX9_init : nameOk yX9_init 0 = true := by decide +kernel
def bX9_init_0 (J : JT) : List Value → Sem
  | [.ref x0] =>
    pI 9 0 x0 0 <|
    nA 1 12 fun r1 =>
    pR 9 1 x0 (some r1) <|
    nA 1 12 fun r2 =>
    pR 9 2 x0 (some r2) <|
    rV
  | _ => no
def bX9_init (J : JT) : JT := fun L a => match L with
  | 0 => bX9_init_0 J a
  | _ => no
def SX9_init : ST := mk 1 bX9_init
def lX9_init (L : Nat) (a : List Value) : Nat × Nat × Nat × List (Nat × Value) × List Value := match L with
  | 0 => (0, 0, 0, lv_args 0 a, [])
  | _ => (0, 0, 0, [], [])
theorem pX9_init_0 {Γ : CT} (hC : Ctx Γ "SpiritWall$Wall" cX9_init 1 none rmX9_init) (hnt : NT Γ) (hnm : (kMe Γ).name = "<init>") (J : JT) (hJ : ∀ L a, Cor Γ 1 (lX9_init L a).1 (lX9_init L a).2.1 (lX9_init L a).2.2.1 (lX9_init L a).2.2.2.1 (lX9_init L a).2.2.2.2 (J L a)) (a : List Value) : Cor Γ 1 0 0 0 (lv_args 0 a) [] (bX9_init_0 J a) := by
  unfold bX9_init_0
  split
  · rename_i x0
    refine c_sub [0] rfl (loc' := [(0, .ref x0)]) ?_
    refine q_aload_n hC 0 dX9_init_0 rfl rfl ?_
    refine q_oinit hC w_5 w_1 w_oinit ⟨(Nat.le_of_ble_eq_true rfl), (Nat.le_of_ble_eq_true rfl)⟩ dX9_init_1 ?_
    refine q_aload_n hC 0 dX9_init_4 rfl rfl ?_
    refine q_iconst hC dX9_init_5 rfl ?_
    refine q_putI hC (by decide) (by decide) rfl rfl w_6 dX9_init_6 ?_
    refine q_aload_n hC 0 dX9_init_9 rfl rfl ?_
    refine q_bipush hC (v := 12) dX9_init_10 rfl ?_
    refine q_newa hC (atype := .int) (N := 12) (by decide) w_4 rfl (Nat.le_of_ble_eq_true rfl) ⟨(Nat.le_of_ble_eq_true rfl), (Nat.le_of_ble_eq_true rfl)⟩ dX9_init_12 (fun r1 => ?_)
    refine q_putR hC (by decide) (by decide) rfl (Or.inr ⟨hnm, rfl, rfl⟩) w_7 dX9_init_14 ?_
    refine q_aload_n hC 0 dX9_init_17 rfl rfl ?_
    refine q_bipush hC (v := 12) dX9_init_18 rfl ?_
    refine q_newa hC (atype := .int) (N := 12) (by decide) w_4 rfl (Nat.le_of_ble_eq_true rfl) ⟨(Nat.le_of_ble_eq_true rfl), (Nat.le_of_ble_eq_true rfl)⟩ dX9_init_20 (fun r2 => ?_)
    refine q_putR hC (by decide) (by decide) rfl (Or.inr ⟨hnm, rfl, rfl⟩) w_8 dX9_init_22 ?_
    exact q_vret hC dX9_init_25 (Nat.le_of_ble_eq_true rfl) (Nat.le_of_ble_eq_true rfl)
  · exact c_no
theorem sX9_init : Snd yX9_init (.code yX9_init cX9_init 1 none) rmX9_init SX9_init := by
  refine Snd.of lX9_init (by decide +kernel) (fun _ => rfl) ?_
  intro Γ hC hnt hnm J hJ L a
  match L with
  | 0 => exact pX9_init_0 hC hnt hnm J hJ a
  | L + 1 => exact c_no
/-! SpiritWall.copyRow([I[I)V -/
theorem dX10_copyRow_0 : decode cX10_copyRow 0 = .ok (.iconst 0, 1) := by decide +kernel
theorem dX10_copyRow_1 : decode cX10_copyRow 1 = .ok (.istore_n 2, 1) := by decide +kernel
theorem dX10_copyRow_2 : decode cX10_copyRow 2 = .ok (.iload_n 2, 1) := by decide +kernel
theorem dX10_copyRow_3 : decode cX10_copyRow 3 = .ok (.aload_n 0, 1) := by decide +kernel
theorem dX10_copyRow_4 : decode cX10_copyRow 4 = .ok (.arraylength, 1) := by decide +kernel
theorem dX10_copyRow_5 : decode cX10_copyRow 5 = .ok (.if_icmp .ge 21, 3) := by decide +kernel
theorem dX10_copyRow_8 : decode cX10_copyRow 8 = .ok (.iload_n 2, 1) := by decide +kernel
theorem dX10_copyRow_9 : decode cX10_copyRow 9 = .ok (.aload_n 1, 1) := by decide +kernel
theorem dX10_copyRow_10 : decode cX10_copyRow 10 = .ok (.arraylength, 1) := by decide +kernel
theorem dX10_copyRow_11 : decode cX10_copyRow 11 = .ok (.if_icmp .ge 15, 3) := by decide +kernel
theorem dX10_copyRow_14 : decode cX10_copyRow 14 = .ok (.aload_n 0, 1) := by decide +kernel
theorem dX10_copyRow_15 : decode cX10_copyRow 15 = .ok (.iload_n 2, 1) := by decide +kernel
theorem dX10_copyRow_16 : decode cX10_copyRow 16 = .ok (.aload_n 1, 1) := by decide +kernel
theorem dX10_copyRow_17 : decode cX10_copyRow 17 = .ok (.iload_n 2, 1) := by decide +kernel
theorem dX10_copyRow_18 : decode cX10_copyRow 18 = .ok (.iaload, 1) := by decide +kernel
theorem dX10_copyRow_19 : decode cX10_copyRow 19 = .ok (.iastore, 1) := by decide +kernel
theorem dX10_copyRow_20 : decode cX10_copyRow 20 = .ok (.iinc 2 1, 3) := by decide +kernel
theorem dX10_copyRow_23 : decode cX10_copyRow 23 = .ok (.goto (-21), 3) := by decide +kernel
theorem dX10_copyRow_26 : decode cX10_copyRow 26 = .ok (.return_, 1) := by decide +kernel
def rmX10_copyRow : Room := rmk 6 0 0 150
theorem nX10_copyRow : nameOk yX10_copyRow 2 = true := by decide +kernel
def bX10_copyRow_0 (J : JT) : List Value → Sem
  | [.ref x0, .ref x1] =>
    J 1 [.ref x0, .ref x1, .int 0]
  | _ => no
def bX10_copyRow_1 (J : JT) : List Value → Sem
  | [.ref x0, .ref x1, .int x2] =>
    aL x0 fun v1 =>
    br (v1 ≤ x2)
    (rV)
    (aL x1 fun v2 =>
    br (v2 ≤ x2)
    (rV)
    (aI x1 x2 fun v3 =>
    sA x0 x2 v3 <|
    J 1 [.ref x0, .ref x1, .int (x2 + 1)]))
  | _ => no
def bX10_copyRow (J : JT) : JT := fun L a => match L with
  | 0 => bX10_copyRow_0 J a
  | 1 => bX10_copyRow_1 J a
  | _ => no
def SX10_copyRow : ST := mk 3 bX10_copyRow
def lX10_copyRow (L : Nat) (a : List Value) : Nat × Nat × Nat × List (Nat × Value) × List Value := match L with
  | 0 => (0, 0, 0, lv_args 0 a, [])
  | 1 => (0, 0, 2, List.zip [0, 1, 2] a, [])
  | _ => (0, 0, 0, [], [])
theorem pX10_copyRow_0 {Γ : CT} (hC : Ctx Γ "SpiritWall" cX10_copyRow 3 none rmX10_copyRow) (hnt : NT Γ) (J : JT) (hJ : ∀ L a, Cor Γ 3 (lX10_copyRow L a).1 (lX10_copyRow L a).2.1 (lX10_copyRow L a).2.2.1 (lX10_copyRow L a).2.2.2.1 (lX10_copyRow L a).2.2.2.2 (J L a)) (a : List Value) : Cor Γ 3 0 0 0 (lv_args 0 a) [] (bX10_copyRow_0 J a) := by
  unfold bX10_copyRow_0
  split
  · rename_i x0 x1
    refine c_sub [0, 1] rfl (loc' := [(0, .ref x0), (1, .ref x1)]) ?_
    refine q_iconst hC dX10_copyRow_0 rfl ?_
    refine q_istore_nA hC (loc' := [(2, .int 0), (0, .ref x0), (1, .ref x1)]) dX10_copyRow_1 rfl (Nat.le_of_ble_eq_true rfl) rfl ?_
    exact c_sub [1, 2, 0] rfl (hJ 1 [.ref x0, .ref x1, .int 0])
  · exact c_no
theorem pX10_copyRow_1 {Γ : CT} (hC : Ctx Γ "SpiritWall" cX10_copyRow 3 none rmX10_copyRow) (hnt : NT Γ) (J : JT) (hJ : ∀ L a, Cor Γ 3 (lX10_copyRow L a).1 (lX10_copyRow L a).2.1 (lX10_copyRow L a).2.2.1 (lX10_copyRow L a).2.2.2.1 (lX10_copyRow L a).2.2.2.2 (J L a)) (a : List Value) : Cor Γ 3 0 0 2 (List.zip [0, 1, 2] a) [] (bX10_copyRow_1 J a) := by
  unfold bX10_copyRow_1
  split
  · rename_i x0 x1 x2
    refine c_sub [0, 1, 2] rfl (loc' := [(0, .ref x0), (1, .ref x1), (2, .int x2)]) ?_
    refine q_iload_n hC 2 dX10_copyRow_2 rfl rfl ?_
    refine q_aload_n hC 0 dX10_copyRow_3 rfl rfl ?_
    refine q_alen hC dX10_copyRow_4 (fun v1 => ?_)
    refine q_ic_ge hC 26 dX10_copyRow_5 rfl ?_ ?_
    · exact q_vret hC dX10_copyRow_26 (Nat.le_of_ble_eq_true rfl) (Nat.le_of_ble_eq_true rfl)
    · refine q_iload_n hC 2 dX10_copyRow_8 rfl rfl ?_
      refine q_aload_n hC 1 dX10_copyRow_9 rfl rfl ?_
      refine q_alen hC dX10_copyRow_10 (fun v2 => ?_)
      refine q_ic_ge hC 26 dX10_copyRow_11 rfl ?_ ?_
      · exact q_vret hC dX10_copyRow_26 (Nat.le_of_ble_eq_true rfl) (Nat.le_of_ble_eq_true rfl)
      · refine q_aload_n hC 0 dX10_copyRow_14 rfl rfl ?_
        refine q_iload_n hC 2 dX10_copyRow_15 rfl rfl ?_
        refine q_aload_n hC 1 dX10_copyRow_16 rfl rfl ?_
        refine q_iload_n hC 2 dX10_copyRow_17 rfl rfl ?_
        refine q_iald hC dX10_copyRow_18 (fun v3 => ?_)
        refine q_iast hC dX10_copyRow_19 ?_
        refine q_iincA hC (loc' := [(2, .int (x2 + 1)), (0, .ref x0), (1, .ref x1)]) 2 1 dX10_copyRow_20 rfl rfl (Nat.le_of_ble_eq_true rfl) rfl ?_
        refine q_goto hC 2 dX10_copyRow_23 rfl ?_
        exact c_sub [1, 2, 0] rfl (hJ 1 [.ref x0, .ref x1, .int (x2 + 1)])
  · exact c_no
theorem sX10_copyRow : Snd yX10_copyRow (.code yX10_copyRow cX10_copyRow 3 none) rmX10_copyRow SX10_copyRow := by
  refine Snd.of lX10_copyRow (by decide +kernel) (fun _ => rfl) ?_
  intro Γ hC hnt hnm J hJ L a
  match L with
  | 0 => exact pX10_copyRow_0 hC hnt J hJ a
  | 1 => exact pX10_copyRow_1 hC hnt J hJ a
  | L + 2 => exact c_no
/-! SpiritWall$State.<init>()V -/
theorem dX6_init_0 : decode cX6_init 0 = .ok (.aload_n 0, 1) := by decide +kernel
theorem dX6_init_1 : decode cX6_init 1 = .ok (.invokespecial 3, 3) := by decide +kernel
theorem dX6_init_4 : decode cX6_init 4 = .ok (.aload_n 0, 1) := by decide +kernel
theorem dX6_init_5 : decode cX6_init 5 = .ok (.iconst 4, 1) := by decide +kernel
theorem dX6_init_6 : decode cX6_init 6 = .ok (.newarray .int, 2) := by decide +kernel
theorem dX6_init_8 : decode cX6_init 8 = .ok (.putfield 9, 3) := by decide +kernel
theorem dX6_init_11 : decode cX6_init 11 = .ok (.aload_n 0, 1) := by decide +kernel
theorem dX6_init_12 : decode cX6_init 12 = .ok (.iconst 0, 1) := by decide +kernel
theorem dX6_init_13 : decode cX6_init 13 = .ok (.putfield 15, 3) := by decide +kernel
theorem dX6_init_16 : decode cX6_init 16 = .ok (.aload_n 0, 1) := by decide +kernel
theorem dX6_init_17 : decode cX6_init 17 = .ok (.iconst 0, 1) := by decide +kernel
theorem dX6_init_18 : decode cX6_init 18 = .ok (.putfield 19, 3) := by decide +kernel
theorem dX6_init_21 : decode cX6_init 21 = .ok (.aload_n 0, 1) := by decide +kernel
theorem dX6_init_22 : decode cX6_init 22 = .ok (.bipush 12, 2) := by decide +kernel
theorem dX6_init_24 : decode cX6_init 24 = .ok (.newarray .int, 2) := by decide +kernel
theorem dX6_init_26 : decode cX6_init 26 = .ok (.putfield 23, 3) := by decide +kernel
theorem dX6_init_29 : decode cX6_init 29 = .ok (.aload_n 0, 1) := by decide +kernel
theorem dX6_init_30 : decode cX6_init 30 = .ok (.bipush 12, 2) := by decide +kernel
theorem dX6_init_32 : decode cX6_init 32 = .ok (.newarray .int, 2) := by decide +kernel
theorem dX6_init_34 : decode cX6_init 34 = .ok (.putfield 26, 3) := by decide +kernel
theorem dX6_init_37 : decode cX6_init 37 = .ok (.aload_n 0, 1) := by decide +kernel
theorem dX6_init_38 : decode cX6_init 38 = .ok (.bipush 12, 2) := by decide +kernel
theorem dX6_init_40 : decode cX6_init 40 = .ok (.newarray .int, 2) := by decide +kernel
theorem dX6_init_42 : decode cX6_init 42 = .ok (.putfield 29, 3) := by decide +kernel
theorem dX6_init_45 : decode cX6_init 45 = .ok (.aload_n 0, 1) := by decide +kernel
theorem dX6_init_46 : decode cX6_init 46 = .ok (.iconst 0, 1) := by decide +kernel
theorem dX6_init_47 : decode cX6_init 47 = .ok (.putfield 32, 3) := by decide +kernel
theorem dX6_init_50 : decode cX6_init 50 = .ok (.aload_n 0, 1) := by decide +kernel
theorem dX6_init_51 : decode cX6_init 51 = .ok (.bipush 40, 2) := by decide +kernel
theorem dX6_init_53 : decode cX6_init 53 = .ok (.newarray .int, 2) := by decide +kernel
theorem dX6_init_55 : decode cX6_init 55 = .ok (.putfield 35, 3) := by decide +kernel
theorem dX6_init_58 : decode cX6_init 58 = .ok (.aload_n 0, 1) := by decide +kernel
theorem dX6_init_59 : decode cX6_init 59 = .ok (.bipush 40, 2) := by decide +kernel
theorem dX6_init_61 : decode cX6_init 61 = .ok (.newarray .int, 2) := by decide +kernel
theorem dX6_init_63 : decode cX6_init 63 = .ok (.putfield 38, 3) := by decide +kernel
theorem dX6_init_66 : decode cX6_init 66 = .ok (.aload_n 0, 1) := by decide +kernel
theorem dX6_init_67 : decode cX6_init 67 = .ok (.bipush 40, 2) := by decide +kernel
theorem dX6_init_69 : decode cX6_init 69 = .ok (.newarray .int, 2) := by decide +kernel
theorem dX6_init_71 : decode cX6_init 71 = .ok (.putfield 41, 3) := by decide +kernel
theorem dX6_init_74 : decode cX6_init 74 = .ok (.aload_n 0, 1) := by decide +kernel
theorem dX6_init_75 : decode cX6_init 75 = .ok (.bipush 40, 2) := by decide +kernel
theorem dX6_init_77 : decode cX6_init 77 = .ok (.newarray .int, 2) := by decide +kernel
theorem dX6_init_79 : decode cX6_init 79 = .ok (.putfield 44, 3) := by decide +kernel
theorem dX6_init_82 : decode cX6_init 82 = .ok (.aload_n 0, 1) := by decide +kernel
theorem dX6_init_83 : decode cX6_init 83 = .ok (.bipush 40, 2) := by decide +kernel
theorem dX6_init_85 : decode cX6_init 85 = .ok (.newarray .int, 2) := by decide +kernel
theorem dX6_init_87 : decode cX6_init 87 = .ok (.putfield 47, 3) := by decide +kernel
theorem dX6_init_90 : decode cX6_init 90 = .ok (.aload_n 0, 1) := by decide +kernel
theorem dX6_init_91 : decode cX6_init 91 = .ok (.bipush 40, 2) := by decide +kernel
theorem dX6_init_93 : decode cX6_init 93 = .ok (.newarray .int, 2) := by decide +kernel
theorem dX6_init_95 : decode cX6_init 95 = .ok (.putfield 50, 3) := by decide +kernel
theorem dX6_init_98 : decode cX6_init 98 = .ok (.aload_n 0, 1) := by decide +kernel
theorem dX6_init_99 : decode cX6_init 99 = .ok (.getfield 9, 3) := by decide +kernel
theorem dX6_init_102 : decode cX6_init 102 = .ok (.getstatic 53, 3) := by decide +kernel
theorem dX6_init_105 : decode cX6_init 105 = .ok (.invokestatic 56, 3) := by decide +kernel
theorem dX6_init_108 : decode cX6_init 108 = .ok (.return_, 1) := by decide +kernel
def rmX6_init : Room := rmk 7 10 280 172
theorem nX6_init : nameOk yX6_init 0 = true := by decide +kernel
def bX6_init_0 (J : JT) : List Value → Sem
  | [.ref x0] =>
    nA 1 4 fun r1 =>
    pR 6 0 x0 (some r1) <|
    pZ 6 1 x0 0 <|
    pI 6 2 x0 0 <|
    nA 1 12 fun r2 =>
    pR 6 3 x0 (some r2) <|
    nA 1 12 fun r3 =>
    pR 6 4 x0 (some r3) <|
    nA 1 12 fun r4 =>
    pR 6 5 x0 (some r4) <|
    pI 6 6 x0 0 <|
    nA 1 40 fun r5 =>
    pR 6 7 x0 (some r5) <|
    nA 1 40 fun r6 =>
    pR 6 8 x0 (some r6) <|
    nA 1 40 fun r7 =>
    pR 6 9 x0 (some r7) <|
    nA 1 40 fun r8 =>
    pR 6 10 x0 (some r8) <|
    nA 1 40 fun r9 =>
    pR 6 11 x0 (some r9) <|
    nA 1 40 fun r10 =>
    pR 6 12 x0 (some r10) <|
    gR 6 0 x0 fun r11 =>
    cV SX10_copyRow [.ref r11, .ref 1002] <|
    rV
  | _ => no
def bX6_init (J : JT) : JT := fun L a => match L with
  | 0 => bX6_init_0 J a
  | _ => no
def SX6_init : ST := mk 1 bX6_init
def lX6_init (L : Nat) (a : List Value) : Nat × Nat × Nat × List (Nat × Value) × List Value := match L with
  | 0 => (0, 0, 0, lv_args 0 a, [])
  | _ => (0, 0, 0, [], [])
theorem pX6_init_0 {Γ : CT} (hC : Ctx Γ "SpiritWall$State" cX6_init 1 none rmX6_init) (hnt : NT Γ) (hnm : (kMe Γ).name = "<init>") (J : JT) (hJ : ∀ L a, Cor Γ 1 (lX6_init L a).1 (lX6_init L a).2.1 (lX6_init L a).2.2.1 (lX6_init L a).2.2.2.1 (lX6_init L a).2.2.2.2 (J L a)) (a : List Value) : Cor Γ 1 0 0 0 (lv_args 0 a) [] (bX6_init_0 J a) := by
  unfold bX6_init_0
  split
  · rename_i x0
    refine c_sub [0] rfl (loc' := [(0, .ref x0)]) ?_
    refine q_aload_n hC 0 dX6_init_0 rfl rfl ?_
    refine q_oinit hC w_9 w_1 w_oinit ⟨(Nat.le_of_ble_eq_true rfl), (Nat.le_of_ble_eq_true rfl)⟩ dX6_init_1 ?_
    refine q_aload_n hC 0 dX6_init_4 rfl rfl ?_
    refine q_iconst hC dX6_init_5 rfl ?_
    refine q_newa hC (atype := .int) (N := 4) (by decide) w_4 rfl (Nat.le_of_ble_eq_true rfl) ⟨(Nat.le_of_ble_eq_true rfl), (Nat.le_of_ble_eq_true rfl)⟩ dX6_init_6 (fun r1 => ?_)
    refine q_putR hC (by decide) (by decide) rfl (Or.inr ⟨hnm, rfl, rfl⟩) w_10 dX6_init_8 ?_
    refine q_aload_n hC 0 dX6_init_11 rfl rfl ?_
    refine q_iconst hC dX6_init_12 rfl ?_
    refine q_putZ hC (by decide) (by decide) rfl rfl w_11 dX6_init_13 ?_
    refine q_aload_n hC 0 dX6_init_16 rfl rfl ?_
    refine q_iconst hC dX6_init_17 rfl ?_
    refine q_putI hC (by decide) (by decide) rfl rfl w_12 dX6_init_18 ?_
    refine q_aload_n hC 0 dX6_init_21 rfl rfl ?_
    refine q_bipush hC (v := 12) dX6_init_22 rfl ?_
    refine q_newa hC (atype := .int) (N := 12) (by decide) w_4 rfl (Nat.le_of_ble_eq_true rfl) ⟨(Nat.le_of_ble_eq_true rfl), (Nat.le_of_ble_eq_true rfl)⟩ dX6_init_24 (fun r2 => ?_)
    refine q_putR hC (by decide) (by decide) rfl (Or.inr ⟨hnm, rfl, rfl⟩) w_13 dX6_init_26 ?_
    refine q_aload_n hC 0 dX6_init_29 rfl rfl ?_
    refine q_bipush hC (v := 12) dX6_init_30 rfl ?_
    refine q_newa hC (atype := .int) (N := 12) (by decide) w_4 rfl (Nat.le_of_ble_eq_true rfl) ⟨(Nat.le_of_ble_eq_true rfl), (Nat.le_of_ble_eq_true rfl)⟩ dX6_init_32 (fun r3 => ?_)
    refine q_putR hC (by decide) (by decide) rfl (Or.inr ⟨hnm, rfl, rfl⟩) w_14 dX6_init_34 ?_
    refine q_aload_n hC 0 dX6_init_37 rfl rfl ?_
    refine q_bipush hC (v := 12) dX6_init_38 rfl ?_
    refine q_newa hC (atype := .int) (N := 12) (by decide) w_4 rfl (Nat.le_of_ble_eq_true rfl) ⟨(Nat.le_of_ble_eq_true rfl), (Nat.le_of_ble_eq_true rfl)⟩ dX6_init_40 (fun r4 => ?_)
    refine q_putR hC (by decide) (by decide) rfl (Or.inr ⟨hnm, rfl, rfl⟩) w_15 dX6_init_42 ?_
    refine q_aload_n hC 0 dX6_init_45 rfl rfl ?_
    refine q_iconst hC dX6_init_46 rfl ?_
    refine q_putI hC (by decide) (by decide) rfl rfl w_16 dX6_init_47 ?_
    refine q_aload_n hC 0 dX6_init_50 rfl rfl ?_
    refine q_bipush hC (v := 40) dX6_init_51 rfl ?_
    refine q_newa hC (atype := .int) (N := 40) (by decide) w_4 rfl (Nat.le_of_ble_eq_true rfl) ⟨(Nat.le_of_ble_eq_true rfl), (Nat.le_of_ble_eq_true rfl)⟩ dX6_init_53 (fun r5 => ?_)
    refine q_putR hC (by decide) (by decide) rfl (Or.inr ⟨hnm, rfl, rfl⟩) w_17 dX6_init_55 ?_
    refine q_aload_n hC 0 dX6_init_58 rfl rfl ?_
    refine q_bipush hC (v := 40) dX6_init_59 rfl ?_
    refine q_newa hC (atype := .int) (N := 40) (by decide) w_4 rfl (Nat.le_of_ble_eq_true rfl) ⟨(Nat.le_of_ble_eq_true rfl), (Nat.le_of_ble_eq_true rfl)⟩ dX6_init_61 (fun r6 => ?_)
    refine q_putR hC (by decide) (by decide) rfl (Or.inr ⟨hnm, rfl, rfl⟩) w_18 dX6_init_63 ?_
    refine q_aload_n hC 0 dX6_init_66 rfl rfl ?_
    refine q_bipush hC (v := 40) dX6_init_67 rfl ?_
    refine q_newa hC (atype := .int) (N := 40) (by decide) w_4 rfl (Nat.le_of_ble_eq_true rfl) ⟨(Nat.le_of_ble_eq_true rfl), (Nat.le_of_ble_eq_true rfl)⟩ dX6_init_69 (fun r7 => ?_)
    refine q_putR hC (by decide) (by decide) rfl (Or.inr ⟨hnm, rfl, rfl⟩) w_19 dX6_init_71 ?_
    refine q_aload_n hC 0 dX6_init_74 rfl rfl ?_
    refine q_bipush hC (v := 40) dX6_init_75 rfl ?_
    refine q_newa hC (atype := .int) (N := 40) (by decide) w_4 rfl (Nat.le_of_ble_eq_true rfl) ⟨(Nat.le_of_ble_eq_true rfl), (Nat.le_of_ble_eq_true rfl)⟩ dX6_init_77 (fun r8 => ?_)
    refine q_putR hC (by decide) (by decide) rfl (Or.inr ⟨hnm, rfl, rfl⟩) w_20 dX6_init_79 ?_
    refine q_aload_n hC 0 dX6_init_82 rfl rfl ?_
    refine q_bipush hC (v := 40) dX6_init_83 rfl ?_
    refine q_newa hC (atype := .int) (N := 40) (by decide) w_4 rfl (Nat.le_of_ble_eq_true rfl) ⟨(Nat.le_of_ble_eq_true rfl), (Nat.le_of_ble_eq_true rfl)⟩ dX6_init_85 (fun r9 => ?_)
    refine q_putR hC (by decide) (by decide) rfl (Or.inr ⟨hnm, rfl, rfl⟩) w_21 dX6_init_87 ?_
    refine q_aload_n hC 0 dX6_init_90 rfl rfl ?_
    refine q_bipush hC (v := 40) dX6_init_91 rfl ?_
    refine q_newa hC (atype := .int) (N := 40) (by decide) w_4 rfl (Nat.le_of_ble_eq_true rfl) ⟨(Nat.le_of_ble_eq_true rfl), (Nat.le_of_ble_eq_true rfl)⟩ dX6_init_93 (fun r10 => ?_)
    refine q_putR hC (by decide) (by decide) rfl (Or.inr ⟨hnm, rfl, rfl⟩) w_22 dX6_init_95 ?_
    refine q_aload_n hC 0 dX6_init_98 rfl rfl ?_
    refine q_getR hC (by decide) (by decide) rfl w_10 dX6_init_99 (fun r11 => ?_)
    refine q_getsN hC (i := 2) (by decide) w_23 dX6_init_102 ?_
    refine q_cNV hC hnt (stk := []) (as := [.ref r11, .ref 1002]) sX10_copyRow nX10_copyRow rfl w_24 w_26 w_27 w_25 (Nat.le_of_ble_eq_true rfl) dX6_init_105 rfl ?_
    exact q_vret hC dX6_init_108 (Nat.le_of_ble_eq_true rfl) (Nat.le_of_ble_eq_true rfl)
  · exact c_no
theorem sX6_init : Snd yX6_init (.code yX6_init cX6_init 1 none) rmX6_init SX6_init := by
  refine Snd.of lX6_init (by decide +kernel) (fun _ => rfl) ?_
  intro Γ hC hnt hnm J hJ L a
  match L with
  | 0 => exact pX6_init_0 hC hnt hnm J hJ a
  | L + 1 => exact c_no
/-! SpiritWall$History.<init>()V -/
theorem dX3_init_0 : decode cX3_init 0 = .ok (.aload_n 0, 1) := by decide +kernel
theorem dX3_init_1 : decode cX3_init 1 = .ok (.invokespecial 3, 3) := by decide +kernel
theorem dX3_init_4 : decode cX3_init 4 = .ok (.aload_n 0, 1) := by decide +kernel
theorem dX3_init_5 : decode cX3_init 5 = .ok (.bipush 10, 2) := by decide +kernel
theorem dX3_init_7 : decode cX3_init 7 = .ok (.anewarray 9, 3) := by decide +kernel
theorem dX3_init_10 : decode cX3_init 10 = .ok (.putfield 11, 3) := by decide +kernel
theorem dX3_init_13 : decode cX3_init 13 = .ok (.aload_n 0, 1) := by decide +kernel
theorem dX3_init_14 : decode cX3_init 14 = .ok (.iconst 0, 1) := by decide +kernel
theorem dX3_init_15 : decode cX3_init 15 = .ok (.putfield 17, 3) := by decide +kernel
theorem dX3_init_18 : decode cX3_init 18 = .ok (.aload_n 0, 1) := by decide +kernel
theorem dX3_init_19 : decode cX3_init 19 = .ok (.iconst 0, 1) := by decide +kernel
theorem dX3_init_20 : decode cX3_init 20 = .ok (.putfield 21, 3) := by decide +kernel
theorem dX3_init_23 : decode cX3_init 23 = .ok (.iconst 0, 1) := by decide +kernel
theorem dX3_init_24 : decode cX3_init 24 = .ok (.istore_n 1, 1) := by decide +kernel
theorem dX3_init_25 : decode cX3_init 25 = .ok (.iload_n 1, 1) := by decide +kernel
theorem dX3_init_26 : decode cX3_init 26 = .ok (.aload_n 0, 1) := by decide +kernel
theorem dX3_init_27 : decode cX3_init 27 = .ok (.getfield 11, 3) := by decide +kernel
theorem dX3_init_30 : decode cX3_init 30 = .ok (.arraylength, 1) := by decide +kernel
theorem dX3_init_31 : decode cX3_init 31 = .ok (.if_icmp .ge 22, 3) := by decide +kernel
theorem dX3_init_34 : decode cX3_init 34 = .ok (.aload_n 0, 1) := by decide +kernel
theorem dX3_init_35 : decode cX3_init 35 = .ok (.getfield 11, 3) := by decide +kernel
theorem dX3_init_38 : decode cX3_init 38 = .ok (.iload_n 1, 1) := by decide +kernel
theorem dX3_init_39 : decode cX3_init 39 = .ok (.new 9, 3) := by decide +kernel
theorem dX3_init_42 : decode cX3_init 42 = .ok (.dup, 1) := by decide +kernel
theorem dX3_init_43 : decode cX3_init 43 = .ok (.invokespecial 24, 3) := by decide +kernel
theorem dX3_init_46 : decode cX3_init 46 = .ok (.aastore, 1) := by decide +kernel
theorem dX3_init_47 : decode cX3_init 47 = .ok (.iinc 1 1, 3) := by decide +kernel
theorem dX3_init_50 : decode cX3_init 50 = .ok (.goto (-25), 3) := by decide +kernel
theorem dX3_init_53 : decode cX3_init 53 = .ok (.return_, 1) := by decide +kernel
def rmX3_init : Room := rmk 8 111 2940 192
theorem nX3_init : nameOk yX3_init 0 = true := by decide +kernel
def bX3_init_0 (J : JT) : List Value → Sem
  | [.ref x0] =>
    nA 5 10 fun r1 =>
    pR 3 0 x0 (some r1) <|
    pI 3 1 x0 0 <|
    pI 3 2 x0 0 <|
    gR 3 0 x0 fun r2 =>
    aL r2 fun v3 =>
    br (v3 ≤ (0 : Int32))
    (rV)
    (gR 3 0 x0 fun r4 =>
    nO 6 fun r5 =>
    cV SX6_init [.ref r5] <|
    sR r4 0 r5 <|
    gR 3 0 x0 fun r6 =>
    aL r6 fun v7 =>
    br (v7 ≤ (0 + 1))
    (rV)
    (gR 3 0 x0 fun r8 =>
    nO 6 fun r9 =>
    cV SX6_init [.ref r9] <|
    sR r8 (0 + 1) r9 <|
    gR 3 0 x0 fun r10 =>
    aL r10 fun v11 =>
    br (v11 ≤ ((0 + 1) + 1))
    (rV)
    (gR 3 0 x0 fun r12 =>
    nO 6 fun r13 =>
    cV SX6_init [.ref r13] <|
    sR r12 ((0 + 1) + 1) r13 <|
    gR 3 0 x0 fun r14 =>
    aL r14 fun v15 =>
    br (v15 ≤ (((0 + 1) + 1) + 1))
    (rV)
    (gR 3 0 x0 fun r16 =>
    nO 6 fun r17 =>
    cV SX6_init [.ref r17] <|
    sR r16 (((0 + 1) + 1) + 1) r17 <|
    gR 3 0 x0 fun r18 =>
    aL r18 fun v19 =>
    br (v19 ≤ ((((0 + 1) + 1) + 1) + 1))
    (rV)
    (gR 3 0 x0 fun r20 =>
    nO 6 fun r21 =>
    cV SX6_init [.ref r21] <|
    sR r20 ((((0 + 1) + 1) + 1) + 1) r21 <|
    gR 3 0 x0 fun r22 =>
    aL r22 fun v23 =>
    br (v23 ≤ (((((0 + 1) + 1) + 1) + 1) + 1))
    (rV)
    (gR 3 0 x0 fun r24 =>
    nO 6 fun r25 =>
    cV SX6_init [.ref r25] <|
    sR r24 (((((0 + 1) + 1) + 1) + 1) + 1) r25 <|
    gR 3 0 x0 fun r26 =>
    aL r26 fun v27 =>
    br (v27 ≤ ((((((0 + 1) + 1) + 1) + 1) + 1) + 1))
    (rV)
    (gR 3 0 x0 fun r28 =>
    nO 6 fun r29 =>
    cV SX6_init [.ref r29] <|
    sR r28 ((((((0 + 1) + 1) + 1) + 1) + 1) + 1) r29 <|
    gR 3 0 x0 fun r30 =>
    aL r30 fun v31 =>
    br (v31 ≤ (((((((0 + 1) + 1) + 1) + 1) + 1) + 1) + 1))
    (rV)
    (gR 3 0 x0 fun r32 =>
    nO 6 fun r33 =>
    cV SX6_init [.ref r33] <|
    sR r32 (((((((0 + 1) + 1) + 1) + 1) + 1) + 1) + 1) r33 <|
    gR 3 0 x0 fun r34 =>
    aL r34 fun v35 =>
    br (v35 ≤ ((((((((0 + 1) + 1) + 1) + 1) + 1) + 1) + 1) + 1))
    (rV)
    (gR 3 0 x0 fun r36 =>
    nO 6 fun r37 =>
    cV SX6_init [.ref r37] <|
    sR r36 ((((((((0 + 1) + 1) + 1) + 1) + 1) + 1) + 1) + 1) r37 <|
    gR 3 0 x0 fun r38 =>
    aL r38 fun v39 =>
    br (v39 ≤ (((((((((0 + 1) + 1) + 1) + 1) + 1) + 1) + 1) + 1) + 1))
    (rV)
    (gR 3 0 x0 fun r40 =>
    nO 6 fun r41 =>
    cV SX6_init [.ref r41] <|
    sR r40 (((((((((0 + 1) + 1) + 1) + 1) + 1) + 1) + 1) + 1) + 1) r41 <|
    gR 3 0 x0 fun r42 =>
    aL r42 fun v43 =>
    br (v43 ≤ ((((((((((0 + 1) + 1) + 1) + 1) + 1) + 1) + 1) + 1) + 1) + 1))
    (rV)
    (gR 3 0 x0 fun r44 =>
    no)))))))))))
  | _ => no
def bX3_init (J : JT) : JT := fun L a => match L with
  | 0 => bX3_init_0 J a
  | _ => no
def SX3_init : ST := mk 2 bX3_init
def lX3_init (L : Nat) (a : List Value) : Nat × Nat × Nat × List (Nat × Value) × List Value := match L with
  | 0 => (0, 0, 0, lv_args 0 a, [])
  | _ => (0, 0, 0, [], [])
theorem pX3_init_0 {Γ : CT} (hC : Ctx Γ "SpiritWall$History" cX3_init 2 none rmX3_init) (hnt : NT Γ) (hnm : (kMe Γ).name = "<init>") (J : JT) (hJ : ∀ L a, Cor Γ 2 (lX3_init L a).1 (lX3_init L a).2.1 (lX3_init L a).2.2.1 (lX3_init L a).2.2.2.1 (lX3_init L a).2.2.2.2 (J L a)) (a : List Value) : Cor Γ 2 0 0 0 (lv_args 0 a) [] (bX3_init_0 J a) := by
  unfold bX3_init_0
  split
  · rename_i x0
    refine c_sub [0] rfl (loc' := [(0, .ref x0)]) ?_
    refine q_aload_n hC 0 dX3_init_0 rfl rfl ?_
    refine q_oinit hC w_28 w_1 w_oinit ⟨(Nat.le_of_ble_eq_true rfl), (Nat.le_of_ble_eq_true rfl)⟩ dX3_init_1 ?_
    refine q_aload_n hC 0 dX3_init_4 rfl rfl ?_
    refine q_bipush hC (v := 10) dX3_init_5 rfl ?_
    refine q_anew hC (N := 10) w_36 rfl (Nat.le_of_ble_eq_true rfl) ⟨(Nat.le_of_ble_eq_true rfl), (Nat.le_of_ble_eq_true rfl)⟩ dX3_init_7 (fun r1 => ?_)
    refine q_putR hC (by decide) (by decide) rfl (Or.inr ⟨hnm, rfl, rfl⟩) w_29 dX3_init_10 ?_
    refine q_aload_n hC 0 dX3_init_13 rfl rfl ?_
    refine q_iconst hC dX3_init_14 rfl ?_
    refine q_putI hC (by decide) (by decide) rfl rfl w_30 dX3_init_15 ?_
    refine q_aload_n hC 0 dX3_init_18 rfl rfl ?_
    refine q_iconst hC dX3_init_19 rfl ?_
    refine q_putI hC (by decide) (by decide) rfl rfl w_31 dX3_init_20 ?_
    refine q_iconst hC dX3_init_23 rfl ?_
    refine q_istore_nA hC (loc' := [(1, .int 0), (0, .ref x0)]) dX3_init_24 rfl (Nat.le_of_ble_eq_true rfl) rfl ?_
    refine q_iload_n hC 0 dX3_init_25 rfl rfl ?_
    refine q_aload_n hC 1 dX3_init_26 rfl rfl ?_
    refine q_getR hC (by decide) (by decide) rfl w_29 dX3_init_27 (fun r2 => ?_)
    refine q_alen hC dX3_init_30 (fun v3 => ?_)
    refine q_ic_ge hC 53 dX3_init_31 rfl ?_ ?_
    · exact q_vret hC dX3_init_53 (Nat.le_of_ble_eq_true rfl) (Nat.le_of_ble_eq_true rfl)
    · refine q_aload_n hC 1 dX3_init_34 rfl rfl ?_
      refine q_getR hC (by decide) (by decide) rfl w_29 dX3_init_35 (fun r4 => ?_)
      refine q_iload_n hC 0 dX3_init_38 rfl rfl ?_
      refine q_new hC (by decide) w_36 w_37 w_35 ⟨(Nat.le_of_ble_eq_true rfl), (Nat.le_of_ble_eq_true rfl)⟩ dX3_init_39 (fun r5 => ?_)
      refine q_dup hC dX3_init_42 ?_
      refine q_cIV hC hnt (stk := [.ref r5, .int 0, .ref r4]) (as := []) sX6_init rfl nX6_init rfl w_32 w_34 w_35 w_33 (Nat.le_of_ble_eq_true rfl) dX3_init_43 rfl ?_
      refine q_aast hC dX3_init_46 ?_
      refine q_iincA hC (loc' := [(1, .int (0 + 1)), (0, .ref x0)]) 0 1 dX3_init_47 rfl rfl (Nat.le_of_ble_eq_true rfl) rfl ?_
      refine q_goto hC 25 dX3_init_50 rfl ?_
      refine q_iload_n hC 0 dX3_init_25 rfl rfl ?_
      refine q_aload_n hC 1 dX3_init_26 rfl rfl ?_
      refine q_getR hC (by decide) (by decide) rfl w_29 dX3_init_27 (fun r6 => ?_)
      refine q_alen hC dX3_init_30 (fun v7 => ?_)
      refine q_ic_ge hC 53 dX3_init_31 rfl ?_ ?_
      · exact q_vret hC dX3_init_53 (Nat.le_of_ble_eq_true rfl) (Nat.le_of_ble_eq_true rfl)
      · refine q_aload_n hC 1 dX3_init_34 rfl rfl ?_
        refine q_getR hC (by decide) (by decide) rfl w_29 dX3_init_35 (fun r8 => ?_)
        refine q_iload_n hC 0 dX3_init_38 rfl rfl ?_
        refine q_new hC (by decide) w_36 w_37 w_35 ⟨(Nat.le_of_ble_eq_true rfl), (Nat.le_of_ble_eq_true rfl)⟩ dX3_init_39 (fun r9 => ?_)
        refine q_dup hC dX3_init_42 ?_
        refine q_cIV hC hnt (stk := [.ref r9, .int (0 + 1), .ref r8]) (as := []) sX6_init rfl nX6_init rfl w_32 w_34 w_35 w_33 (Nat.le_of_ble_eq_true rfl) dX3_init_43 rfl ?_
        refine q_aast hC dX3_init_46 ?_
        refine q_iincA hC (loc' := [(1, .int ((0 + 1) + 1)), (0, .ref x0)]) 0 1 dX3_init_47 rfl rfl (Nat.le_of_ble_eq_true rfl) rfl ?_
        refine q_goto hC 25 dX3_init_50 rfl ?_
        refine q_iload_n hC 0 dX3_init_25 rfl rfl ?_
        refine q_aload_n hC 1 dX3_init_26 rfl rfl ?_
        refine q_getR hC (by decide) (by decide) rfl w_29 dX3_init_27 (fun r10 => ?_)
        refine q_alen hC dX3_init_30 (fun v11 => ?_)
        refine q_ic_ge hC 53 dX3_init_31 rfl ?_ ?_
        · exact q_vret hC dX3_init_53 (Nat.le_of_ble_eq_true rfl) (Nat.le_of_ble_eq_true rfl)
        · refine q_aload_n hC 1 dX3_init_34 rfl rfl ?_
          refine q_getR hC (by decide) (by decide) rfl w_29 dX3_init_35 (fun r12 => ?_)
          refine q_iload_n hC 0 dX3_init_38 rfl rfl ?_
          refine q_new hC (by decide) w_36 w_37 w_35 ⟨(Nat.le_of_ble_eq_true rfl), (Nat.le_of_ble_eq_true rfl)⟩ dX3_init_39 (fun r13 => ?_)
          refine q_dup hC dX3_init_42 ?_
          refine q_cIV hC hnt (stk := [.ref r13, .int ((0 + 1) + 1), .ref r12]) (as := []) sX6_init rfl nX6_init rfl w_32 w_34 w_35 w_33 (Nat.le_of_ble_eq_true rfl) dX3_init_43 rfl ?_
          refine q_aast hC dX3_init_46 ?_
          refine q_iincA hC (loc' := [(1, .int (((0 + 1) + 1) + 1)), (0, .ref x0)]) 0 1 dX3_init_47 rfl rfl (Nat.le_of_ble_eq_true rfl) rfl ?_
          refine q_goto hC 25 dX3_init_50 rfl ?_
          refine q_iload_n hC 0 dX3_init_25 rfl rfl ?_
          refine q_aload_n hC 1 dX3_init_26 rfl rfl ?_
          refine q_getR hC (by decide) (by decide) rfl w_29 dX3_init_27 (fun r14 => ?_)
          refine q_alen hC dX3_init_30 (fun v15 => ?_)
          refine q_ic_ge hC 53 dX3_init_31 rfl ?_ ?_
          · exact q_vret hC dX3_init_53 (Nat.le_of_ble_eq_true rfl) (Nat.le_of_ble_eq_true rfl)
          · refine q_aload_n hC 1 dX3_init_34 rfl rfl ?_
            refine q_getR hC (by decide) (by decide) rfl w_29 dX3_init_35 (fun r16 => ?_)
            refine q_iload_n hC 0 dX3_init_38 rfl rfl ?_
            refine q_new hC (by decide) w_36 w_37 w_35 ⟨(Nat.le_of_ble_eq_true rfl), (Nat.le_of_ble_eq_true rfl)⟩ dX3_init_39 (fun r17 => ?_)
            refine q_dup hC dX3_init_42 ?_
            refine q_cIV hC hnt (stk := [.ref r17, .int (((0 + 1) + 1) + 1), .ref r16]) (as := []) sX6_init rfl nX6_init rfl w_32 w_34 w_35 w_33 (Nat.le_of_ble_eq_true rfl) dX3_init_43 rfl ?_
            refine q_aast hC dX3_init_46 ?_
            refine q_iincA hC (loc' := [(1, .int ((((0 + 1) + 1) + 1) + 1)), (0, .ref x0)]) 0 1 dX3_init_47 rfl rfl (Nat.le_of_ble_eq_true rfl) rfl ?_
            refine q_goto hC 25 dX3_init_50 rfl ?_
            refine q_iload_n hC 0 dX3_init_25 rfl rfl ?_
            refine q_aload_n hC 1 dX3_init_26 rfl rfl ?_
            refine q_getR hC (by decide) (by decide) rfl w_29 dX3_init_27 (fun r18 => ?_)
            refine q_alen hC dX3_init_30 (fun v19 => ?_)
            refine q_ic_ge hC 53 dX3_init_31 rfl ?_ ?_
            · exact q_vret hC dX3_init_53 (Nat.le_of_ble_eq_true rfl) (Nat.le_of_ble_eq_true rfl)
            · refine q_aload_n hC 1 dX3_init_34 rfl rfl ?_
              refine q_getR hC (by decide) (by decide) rfl w_29 dX3_init_35 (fun r20 => ?_)
              refine q_iload_n hC 0 dX3_init_38 rfl rfl ?_
              refine q_new hC (by decide) w_36 w_37 w_35 ⟨(Nat.le_of_ble_eq_true rfl), (Nat.le_of_ble_eq_true rfl)⟩ dX3_init_39 (fun r21 => ?_)
              refine q_dup hC dX3_init_42 ?_
              refine q_cIV hC hnt (stk := [.ref r21, .int ((((0 + 1) + 1) + 1) + 1), .ref r20]) (as := []) sX6_init rfl nX6_init rfl w_32 w_34 w_35 w_33 (Nat.le_of_ble_eq_true rfl) dX3_init_43 rfl ?_
              refine q_aast hC dX3_init_46 ?_
              refine q_iincA hC (loc' := [(1, .int (((((0 + 1) + 1) + 1) + 1) + 1)), (0, .ref x0)]) 0 1 dX3_init_47 rfl rfl (Nat.le_of_ble_eq_true rfl) rfl ?_
              refine q_goto hC 25 dX3_init_50 rfl ?_
              refine q_iload_n hC 0 dX3_init_25 rfl rfl ?_
              refine q_aload_n hC 1 dX3_init_26 rfl rfl ?_
              refine q_getR hC (by decide) (by decide) rfl w_29 dX3_init_27 (fun r22 => ?_)
              refine q_alen hC dX3_init_30 (fun v23 => ?_)
              refine q_ic_ge hC 53 dX3_init_31 rfl ?_ ?_
              · exact q_vret hC dX3_init_53 (Nat.le_of_ble_eq_true rfl) (Nat.le_of_ble_eq_true rfl)
              · refine q_aload_n hC 1 dX3_init_34 rfl rfl ?_
                refine q_getR hC (by decide) (by decide) rfl w_29 dX3_init_35 (fun r24 => ?_)
                refine q_iload_n hC 0 dX3_init_38 rfl rfl ?_
                refine q_new hC (by decide) w_36 w_37 w_35 ⟨(Nat.le_of_ble_eq_true rfl), (Nat.le_of_ble_eq_true rfl)⟩ dX3_init_39 (fun r25 => ?_)
                refine q_dup hC dX3_init_42 ?_
                refine q_cIV hC hnt (stk := [.ref r25, .int (((((0 + 1) + 1) + 1) + 1) + 1), .ref r24]) (as := []) sX6_init rfl nX6_init rfl w_32 w_34 w_35 w_33 (Nat.le_of_ble_eq_true rfl) dX3_init_43 rfl ?_
                refine q_aast hC dX3_init_46 ?_
                refine q_iincA hC (loc' := [(1, .int ((((((0 + 1) + 1) + 1) + 1) + 1) + 1)), (0, .ref x0)]) 0 1 dX3_init_47 rfl rfl (Nat.le_of_ble_eq_true rfl) rfl ?_
                refine q_goto hC 25 dX3_init_50 rfl ?_
                refine q_iload_n hC 0 dX3_init_25 rfl rfl ?_
                refine q_aload_n hC 1 dX3_init_26 rfl rfl ?_
                refine q_getR hC (by decide) (by decide) rfl w_29 dX3_init_27 (fun r26 => ?_)
                refine q_alen hC dX3_init_30 (fun v27 => ?_)
                refine q_ic_ge hC 53 dX3_init_31 rfl ?_ ?_
                · exact q_vret hC dX3_init_53 (Nat.le_of_ble_eq_true rfl) (Nat.le_of_ble_eq_true rfl)
                · refine q_aload_n hC 1 dX3_init_34 rfl rfl ?_
                  refine q_getR hC (by decide) (by decide) rfl w_29 dX3_init_35 (fun r28 => ?_)
                  refine q_iload_n hC 0 dX3_init_38 rfl rfl ?_
                  refine q_new hC (by decide) w_36 w_37 w_35 ⟨(Nat.le_of_ble_eq_true rfl), (Nat.le_of_ble_eq_true rfl)⟩ dX3_init_39 (fun r29 => ?_)
                  refine q_dup hC dX3_init_42 ?_
                  refine q_cIV hC hnt (stk := [.ref r29, .int ((((((0 + 1) + 1) + 1) + 1) + 1) + 1), .ref r28]) (as := []) sX6_init rfl nX6_init rfl w_32 w_34 w_35 w_33 (Nat.le_of_ble_eq_true rfl) dX3_init_43 rfl ?_
                  refine q_aast hC dX3_init_46 ?_
                  refine q_iincA hC (loc' := [(1, .int (((((((0 + 1) + 1) + 1) + 1) + 1) + 1) + 1)), (0, .ref x0)]) 0 1 dX3_init_47 rfl rfl (Nat.le_of_ble_eq_true rfl) rfl ?_
                  refine q_goto hC 25 dX3_init_50 rfl ?_
                  refine q_iload_n hC 0 dX3_init_25 rfl rfl ?_
                  refine q_aload_n hC 1 dX3_init_26 rfl rfl ?_
                  refine q_getR hC (by decide) (by decide) rfl w_29 dX3_init_27 (fun r30 => ?_)
                  refine q_alen hC dX3_init_30 (fun v31 => ?_)
                  refine q_ic_ge hC 53 dX3_init_31 rfl ?_ ?_
                  · exact q_vret hC dX3_init_53 (Nat.le_of_ble_eq_true rfl) (Nat.le_of_ble_eq_true rfl)
                  · refine q_aload_n hC 1 dX3_init_34 rfl rfl ?_
                    refine q_getR hC (by decide) (by decide) rfl w_29 dX3_init_35 (fun r32 => ?_)
                    refine q_iload_n hC 0 dX3_init_38 rfl rfl ?_
                    refine q_new hC (by decide) w_36 w_37 w_35 ⟨(Nat.le_of_ble_eq_true rfl), (Nat.le_of_ble_eq_true rfl)⟩ dX3_init_39 (fun r33 => ?_)
                    refine q_dup hC dX3_init_42 ?_
                    refine q_cIV hC hnt (stk := [.ref r33, .int (((((((0 + 1) + 1) + 1) + 1) + 1) + 1) + 1), .ref r32]) (as := []) sX6_init rfl nX6_init rfl w_32 w_34 w_35 w_33 (Nat.le_of_ble_eq_true rfl) dX3_init_43 rfl ?_
                    refine q_aast hC dX3_init_46 ?_
                    refine q_iincA hC (loc' := [(1, .int ((((((((0 + 1) + 1) + 1) + 1) + 1) + 1) + 1) + 1)), (0, .ref x0)]) 0 1 dX3_init_47 rfl rfl (Nat.le_of_ble_eq_true rfl) rfl ?_
                    refine q_goto hC 25 dX3_init_50 rfl ?_
                    refine q_iload_n hC 0 dX3_init_25 rfl rfl ?_
                    refine q_aload_n hC 1 dX3_init_26 rfl rfl ?_
                    refine q_getR hC (by decide) (by decide) rfl w_29 dX3_init_27 (fun r34 => ?_)
                    refine q_alen hC dX3_init_30 (fun v35 => ?_)
                    refine q_ic_ge hC 53 dX3_init_31 rfl ?_ ?_
                    · exact q_vret hC dX3_init_53 (Nat.le_of_ble_eq_true rfl) (Nat.le_of_ble_eq_true rfl)
                    · refine q_aload_n hC 1 dX3_init_34 rfl rfl ?_
                      refine q_getR hC (by decide) (by decide) rfl w_29 dX3_init_35 (fun r36 => ?_)
                      refine q_iload_n hC 0 dX3_init_38 rfl rfl ?_
                      refine q_new hC (by decide) w_36 w_37 w_35 ⟨(Nat.le_of_ble_eq_true rfl), (Nat.le_of_ble_eq_true rfl)⟩ dX3_init_39 (fun r37 => ?_)
                      refine q_dup hC dX3_init_42 ?_
                      refine q_cIV hC hnt (stk := [.ref r37, .int ((((((((0 + 1) + 1) + 1) + 1) + 1) + 1) + 1) + 1), .ref r36]) (as := []) sX6_init rfl nX6_init rfl w_32 w_34 w_35 w_33 (Nat.le_of_ble_eq_true rfl) dX3_init_43 rfl ?_
                      refine q_aast hC dX3_init_46 ?_
                      refine q_iincA hC (loc' := [(1, .int (((((((((0 + 1) + 1) + 1) + 1) + 1) + 1) + 1) + 1) + 1)), (0, .ref x0)]) 0 1 dX3_init_47 rfl rfl (Nat.le_of_ble_eq_true rfl) rfl ?_
                      refine q_goto hC 25 dX3_init_50 rfl ?_
                      refine q_iload_n hC 0 dX3_init_25 rfl rfl ?_
                      refine q_aload_n hC 1 dX3_init_26 rfl rfl ?_
                      refine q_getR hC (by decide) (by decide) rfl w_29 dX3_init_27 (fun r38 => ?_)
                      refine q_alen hC dX3_init_30 (fun v39 => ?_)
                      refine q_ic_ge hC 53 dX3_init_31 rfl ?_ ?_
                      · exact q_vret hC dX3_init_53 (Nat.le_of_ble_eq_true rfl) (Nat.le_of_ble_eq_true rfl)
                      · refine q_aload_n hC 1 dX3_init_34 rfl rfl ?_
                        refine q_getR hC (by decide) (by decide) rfl w_29 dX3_init_35 (fun r40 => ?_)
                        refine q_iload_n hC 0 dX3_init_38 rfl rfl ?_
                        refine q_new hC (by decide) w_36 w_37 w_35 ⟨(Nat.le_of_ble_eq_true rfl), (Nat.le_of_ble_eq_true rfl)⟩ dX3_init_39 (fun r41 => ?_)
                        refine q_dup hC dX3_init_42 ?_
                        refine q_cIV hC hnt (stk := [.ref r41, .int (((((((((0 + 1) + 1) + 1) + 1) + 1) + 1) + 1) + 1) + 1), .ref r40]) (as := []) sX6_init rfl nX6_init rfl w_32 w_34 w_35 w_33 (Nat.le_of_ble_eq_true rfl) dX3_init_43 rfl ?_
                        refine q_aast hC dX3_init_46 ?_
                        refine q_iincA hC (loc' := [(1, .int ((((((((((0 + 1) + 1) + 1) + 1) + 1) + 1) + 1) + 1) + 1) + 1)), (0, .ref x0)]) 0 1 dX3_init_47 rfl rfl (Nat.le_of_ble_eq_true rfl) rfl ?_
                        refine q_goto hC 25 dX3_init_50 rfl ?_
                        refine q_iload_n hC 0 dX3_init_25 rfl rfl ?_
                        refine q_aload_n hC 1 dX3_init_26 rfl rfl ?_
                        refine q_getR hC (by decide) (by decide) rfl w_29 dX3_init_27 (fun r42 => ?_)
                        refine q_alen hC dX3_init_30 (fun v43 => ?_)
                        refine q_ic_ge hC 53 dX3_init_31 rfl ?_ ?_
                        · exact q_vret hC dX3_init_53 (Nat.le_of_ble_eq_true rfl) (Nat.le_of_ble_eq_true rfl)
                        · refine q_aload_n hC 1 dX3_init_34 rfl rfl ?_
                          refine q_getR hC (by decide) (by decide) rfl w_29 dX3_init_35 (fun r44 => ?_)
                          refine q_iload_n hC 0 dX3_init_38 rfl rfl ?_
                          exact c_no
  · exact c_no
theorem sX3_init : Snd yX3_init (.code yX3_init cX3_init 2 none) rmX3_init SX3_init := by
  refine Snd.of lX3_init (by decide +kernel) (fun _ => rfl) ?_
  intro Γ hC hnt hnm J hJ L a
  match L with
  | 0 => exact pX3_init_0 hC hnt hnm J hJ a
  | L + 1 => exact c_no
/-! SpiritWall.withLetter(II)I -/
theorem dX10_withLetter_0 : decode cX10_withLetter 0 = .ok (.iload_n 0, 1) := by decide +kernel
theorem dX10_withLetter_1 : decode cX10_withLetter 1 = .ok (.iconst 5, 1) := by decide +kernel
theorem dX10_withLetter_2 : decode cX10_withLetter 2 = .ok (.ishl, 1) := by decide +kernel
theorem dX10_withLetter_3 : decode cX10_withLetter 3 = .ok (.iload_n 1, 1) := by decide +kernel
theorem dX10_withLetter_4 : decode cX10_withLetter 4 = .ok (.bipush 97, 2) := by decide +kernel
theorem dX10_withLetter_6 : decode cX10_withLetter 6 = .ok (.isub, 1) := by decide +kernel
theorem dX10_withLetter_7 : decode cX10_withLetter 7 = .ok (.iconst 1, 1) := by decide +kernel
theorem dX10_withLetter_8 : decode cX10_withLetter 8 = .ok (.iadd, 1) := by decide +kernel
theorem dX10_withLetter_9 : decode cX10_withLetter 9 = .ok (.ior, 1) := by decide +kernel
theorem dX10_withLetter_10 : decode cX10_withLetter 10 = .ok (.ireturn, 1) := by decide +kernel
def rmX10_withLetter : Room := rmk 6 0 0 150
theorem nX10_withLetter : nameOk yX10_withLetter 2 = true := by decide +kernel
def bX10_withLetter_0 (J : JT) : List Value → Sem
  | [.int x0, .int x1] =>
    rI ((x0 <<< (5 &&& 31)) ||| ((x1 - 97) + 1))
  | _ => no
def bX10_withLetter (J : JT) : JT := fun L a => match L with
  | 0 => bX10_withLetter_0 J a
  | _ => no
def SX10_withLetter : ST := mk 2 bX10_withLetter
def lX10_withLetter (L : Nat) (a : List Value) : Nat × Nat × Nat × List (Nat × Value) × List Value := match L with
  | 0 => (0, 0, 0, lv_args 0 a, [])
  | _ => (0, 0, 0, [], [])
theorem pX10_withLetter_0 {Γ : CT} (hC : Ctx Γ "SpiritWall" cX10_withLetter 2 (some .int) rmX10_withLetter) (hnt : NT Γ) (J : JT) (hJ : ∀ L a, Cor Γ 2 (lX10_withLetter L a).1 (lX10_withLetter L a).2.1 (lX10_withLetter L a).2.2.1 (lX10_withLetter L a).2.2.2.1 (lX10_withLetter L a).2.2.2.2 (J L a)) (a : List Value) : Cor Γ 2 0 0 0 (lv_args 0 a) [] (bX10_withLetter_0 J a) := by
  unfold bX10_withLetter_0
  split
  · rename_i x0 x1
    refine c_sub [0, 1] rfl (loc' := [(0, .int x0), (1, .int x1)]) ?_
    refine q_iload_n hC 0 dX10_withLetter_0 rfl rfl ?_
    refine q_iconst hC dX10_withLetter_1 rfl ?_
    refine q_ishl hC dX10_withLetter_2 ?_
    refine q_iload_n hC 1 dX10_withLetter_3 rfl rfl ?_
    refine q_bipush hC (v := 97) dX10_withLetter_4 rfl ?_
    refine q_isub hC dX10_withLetter_6 ?_
    refine q_iconst hC dX10_withLetter_7 rfl ?_
    refine q_iadd hC dX10_withLetter_8 ?_
    refine q_ior hC dX10_withLetter_9 ?_
    exact q_iret hC dX10_withLetter_10 (Nat.le_of_ble_eq_true rfl) (Nat.le_of_ble_eq_true rfl)
  · exact c_no
theorem sX10_withLetter : Snd yX10_withLetter (.code yX10_withLetter cX10_withLetter 2 (some .int)) rmX10_withLetter SX10_withLetter := by
  refine Snd.of lX10_withLetter (by decide +kernel) (fun _ => rfl) ?_
  intro Γ hC hnt hnm J hJ L a
  match L with
  | 0 => exact pX10_withLetter_0 hC hnt J hJ a
  | L + 1 => exact c_no
/-! SpiritWall.wordOf(Ljava/lang/String;)I -/
theorem dX10_wordOf_0 : decode cX10_wordOf 0 = .ok (.iconst 0, 1) := by decide +kernel
theorem dX10_wordOf_1 : decode cX10_wordOf 1 = .ok (.istore_n 1, 1) := by decide +kernel
theorem dX10_wordOf_2 : decode cX10_wordOf 2 = .ok (.iconst 0, 1) := by decide +kernel
theorem dX10_wordOf_3 : decode cX10_wordOf 3 = .ok (.istore_n 2, 1) := by decide +kernel
theorem dX10_wordOf_4 : decode cX10_wordOf 4 = .ok (.iload_n 2, 1) := by decide +kernel
theorem dX10_wordOf_5 : decode cX10_wordOf 5 = .ok (.aload_n 0, 1) := by decide +kernel
theorem dX10_wordOf_6 : decode cX10_wordOf 6 = .ok (.invokevirtual 460, 3) := by decide +kernel
theorem dX10_wordOf_9 : decode cX10_wordOf 9 = .ok (.if_icmp .ge 25, 3) := by decide +kernel
theorem dX10_wordOf_12 : decode cX10_wordOf 12 = .ok (.iload_n 2, 1) := by decide +kernel
theorem dX10_wordOf_13 : decode cX10_wordOf 13 = .ok (.bipush 6, 2) := by decide +kernel
theorem dX10_wordOf_15 : decode cX10_wordOf 15 = .ok (.if_icmp .ge 19, 3) := by decide +kernel
theorem dX10_wordOf_18 : decode cX10_wordOf 18 = .ok (.iload_n 1, 1) := by decide +kernel
theorem dX10_wordOf_19 : decode cX10_wordOf 19 = .ok (.aload_n 0, 1) := by decide +kernel
theorem dX10_wordOf_20 : decode cX10_wordOf 20 = .ok (.iload_n 2, 1) := by decide +kernel
theorem dX10_wordOf_21 : decode cX10_wordOf 21 = .ok (.invokevirtual 464, 3) := by decide +kernel
theorem dX10_wordOf_24 : decode cX10_wordOf 24 = .ok (.invokestatic 468, 3) := by decide +kernel
theorem dX10_wordOf_27 : decode cX10_wordOf 27 = .ok (.istore_n 1, 1) := by decide +kernel
theorem dX10_wordOf_28 : decode cX10_wordOf 28 = .ok (.iinc 2 1, 3) := by decide +kernel
theorem dX10_wordOf_31 : decode cX10_wordOf 31 = .ok (.goto (-27), 3) := by decide +kernel
theorem dX10_wordOf_34 : decode cX10_wordOf 34 = .ok (.iload_n 1, 1) := by decide +kernel
theorem dX10_wordOf_35 : decode cX10_wordOf 35 = .ok (.ireturn, 1) := by decide +kernel
def rmX10_wordOf : Room := rmk 21 0 0 621
theorem nX10_wordOf : nameOk yX10_wordOf 1 = true := by decide +kernel
def bX10_wordOf_0 (J : JT) : List Value → Sem
  | [.ref x0] =>
    J 1 [.ref x0, .int 0, .int 0]
  | _ => no
def bX10_wordOf_1 (J : JT) : List Value → Sem
  | [.ref x0, .int x1, .int x2] =>
    obS x0 (cI SJ_length [.ref x0] fun v1 =>
    br (v1 ≤ x2)
    (rI x1)
    (br ((6 : Int32) ≤ x2)
    (rI x1)
    (obS x0 (cI SJ_charAt [.ref x0, .int x2] fun v2 =>
    cI SX10_withLetter [.int x1, .int v2] fun v3 =>
    J 1 [.ref x0, .int v3, .int (x2 + 1)]))))
  | _ => no
def bX10_wordOf (J : JT) : JT := fun L a => match L with
  | 0 => bX10_wordOf_0 J a
  | 1 => bX10_wordOf_1 J a
  | _ => no
def SX10_wordOf : ST := mk 3 bX10_wordOf
def lX10_wordOf (L : Nat) (a : List Value) : Nat × Nat × Nat × List (Nat × Value) × List Value := match L with
  | 0 => (0, 0, 0, lv_args 0 a, [])
  | 1 => (0, 0, 4, List.zip [0, 1, 2] a, [])
  | _ => (0, 0, 0, [], [])
theorem pX10_wordOf_0 {Γ : CT} (hC : Ctx Γ "SpiritWall" cX10_wordOf 3 (some .int) rmX10_wordOf) (hnt : NT Γ) (J : JT) (hJ : ∀ L a, Cor Γ 3 (lX10_wordOf L a).1 (lX10_wordOf L a).2.1 (lX10_wordOf L a).2.2.1 (lX10_wordOf L a).2.2.2.1 (lX10_wordOf L a).2.2.2.2 (J L a)) (a : List Value) : Cor Γ 3 0 0 0 (lv_args 0 a) [] (bX10_wordOf_0 J a) := by
  unfold bX10_wordOf_0
  split
  · rename_i x0
    refine c_sub [0] rfl (loc' := [(0, .ref x0)]) ?_
    refine q_iconst hC dX10_wordOf_0 rfl ?_
    refine q_istore_nA hC (loc' := [(1, .int 0), (0, .ref x0)]) dX10_wordOf_1 rfl (Nat.le_of_ble_eq_true rfl) rfl ?_
    refine q_iconst hC dX10_wordOf_2 rfl ?_
    refine q_istore_nA hC (loc' := [(2, .int 0), (1, .int 0), (0, .ref x0)]) dX10_wordOf_3 rfl (Nat.le_of_ble_eq_true rfl) rfl ?_
    exact c_sub [2, 1, 0] rfl (hJ 1 [.ref x0, .int 0, .int 0])
  · exact c_no
theorem pX10_wordOf_1 {Γ : CT} (hC : Ctx Γ "SpiritWall" cX10_wordOf 3 (some .int) rmX10_wordOf) (hnt : NT Γ) (J : JT) (hJ : ∀ L a, Cor Γ 3 (lX10_wordOf L a).1 (lX10_wordOf L a).2.1 (lX10_wordOf L a).2.2.1 (lX10_wordOf L a).2.2.2.1 (lX10_wordOf L a).2.2.2.2 (J L a)) (a : List Value) : Cor Γ 3 0 0 4 (List.zip [0, 1, 2] a) [] (bX10_wordOf_1 J a) := by
  unfold bX10_wordOf_1
  split
  · rename_i x0 x1 x2
    refine c_sub [0, 1, 2] rfl (loc' := [(0, .ref x0), (1, .int x1), (2, .int x2)]) ?_
    refine q_iload_n hC 2 dX10_wordOf_4 rfl rfl ?_
    refine q_aload_n hC 0 dX10_wordOf_5 rfl rfl ?_
    refine q_cTI hC hnt (stk := [.int x2]) (as := []) sJ0_length_8abf5 rfl nJ0_length_8abf5 rfl w_38 w_40 w_41 w_42 w_39 (Nat.le_of_ble_eq_true rfl) dX10_wordOf_6 rfl (fun v1 => ?_)
    refine q_ic_ge hC 34 dX10_wordOf_9 rfl ?_ ?_
    · refine q_iload_n hC 1 dX10_wordOf_34 rfl rfl ?_
      exact q_iret hC dX10_wordOf_35 (Nat.le_of_ble_eq_true rfl) (Nat.le_of_ble_eq_true rfl)
    · refine q_iload_n hC 2 dX10_wordOf_12 rfl rfl ?_
      refine q_bipush hC (v := 6) dX10_wordOf_13 rfl ?_
      refine q_ic_ge hC 34 dX10_wordOf_15 rfl ?_ ?_
      · refine q_iload_n hC 1 dX10_wordOf_34 rfl rfl ?_
        exact q_iret hC dX10_wordOf_35 (Nat.le_of_ble_eq_true rfl) (Nat.le_of_ble_eq_true rfl)
      · refine q_iload_n hC 1 dX10_wordOf_18 rfl rfl ?_
        refine q_aload_n hC 0 dX10_wordOf_19 rfl rfl ?_
        refine q_iload_n hC 2 dX10_wordOf_20 rfl rfl ?_
        refine q_cTI hC hnt (stk := [.int x1]) (as := [.int x2]) sJ0_charAt_5068e rfl nJ0_charAt_5068e rfl w_43 w_45 w_46 w_42 w_44 (Nat.le_of_ble_eq_true rfl) dX10_wordOf_21 rfl (fun v2 => ?_)
        refine q_cSI hC hnt (stk := []) (as := [.int x1, .int v2]) sX10_withLetter nX10_withLetter rfl w_47 w_49 w_27 w_48 (Nat.le_of_ble_eq_true rfl) dX10_wordOf_24 rfl (fun v3 => ?_)
        refine q_istore_nA hC (loc' := [(1, .int v3), (0, .ref x0), (2, .int x2)]) dX10_wordOf_27 rfl (Nat.le_of_ble_eq_true rfl) rfl ?_
        refine q_iincA hC (loc' := [(2, .int (x2 + 1)), (1, .int v3), (0, .ref x0)]) 2 1 dX10_wordOf_28 rfl rfl (Nat.le_of_ble_eq_true rfl) rfl ?_
        refine q_goto hC 4 dX10_wordOf_31 rfl ?_
        exact c_sub [2, 1, 0] rfl (hJ 1 [.ref x0, .int v3, .int (x2 + 1)])
  · exact c_no
theorem sX10_wordOf : Snd yX10_wordOf (.code yX10_wordOf cX10_wordOf 3 (some .int)) rmX10_wordOf SX10_wordOf := by
  refine Snd.of lX10_wordOf (by decide +kernel) (fun _ => rfl) ?_
  intro Γ hC hnt hnm J hJ L a
  match L with
  | 0 => exact pX10_wordOf_0 hC hnt J hJ a
  | 1 => exact pX10_wordOf_1 hC hnt J hJ a
  | L + 2 => exact c_no
/-! SpiritWall$Tokens.<init>(LSpiritWall$Text;)V -/
theorem dX8_init_0 : decode cX8_init 0 = .ok (.aload_n 0, 1) := by decide +kernel
theorem dX8_init_1 : decode cX8_init 1 = .ok (.invokespecial 3, 3) := by decide +kernel
theorem dX8_init_4 : decode cX8_init 4 = .ok (.aload_n 0, 1) := by decide +kernel
theorem dX8_init_5 : decode cX8_init 5 = .ok (.bipush 15, 2) := by decide +kernel
theorem dX8_init_7 : decode cX8_init 7 = .ok (.putfield 11, 3) := by decide +kernel
theorem dX8_init_10 : decode cX8_init 10 = .ok (.aload_n 0, 1) := by decide +kernel
theorem dX8_init_11 : decode cX8_init 11 = .ok (.iconst 0, 1) := by decide +kernel
theorem dX8_init_12 : decode cX8_init 12 = .ok (.putfield 15, 3) := by decide +kernel
theorem dX8_init_15 : decode cX8_init 15 = .ok (.aload_n 0, 1) := by decide +kernel
theorem dX8_init_16 : decode cX8_init 16 = .ok (.iconst 0, 1) := by decide +kernel
theorem dX8_init_17 : decode cX8_init 17 = .ok (.putfield 18, 3) := by decide +kernel
theorem dX8_init_20 : decode cX8_init 20 = .ok (.aload_n 0, 1) := by decide +kernel
theorem dX8_init_21 : decode cX8_init 21 = .ok (.iconst 0, 1) := by decide +kernel
theorem dX8_init_22 : decode cX8_init 22 = .ok (.putfield 21, 3) := by decide +kernel
theorem dX8_init_25 : decode cX8_init 25 = .ok (.aload_n 0, 1) := by decide +kernel
theorem dX8_init_26 : decode cX8_init 26 = .ok (.iconst 0, 1) := by decide +kernel
theorem dX8_init_27 : decode cX8_init 27 = .ok (.putfield 24, 3) := by decide +kernel
theorem dX8_init_30 : decode cX8_init 30 = .ok (.aload_n 0, 1) := by decide +kernel
theorem dX8_init_31 : decode cX8_init 31 = .ok (.aload_n 1, 1) := by decide +kernel
theorem dX8_init_32 : decode cX8_init 32 = .ok (.putfield 27, 3) := by decide +kernel
theorem dX8_init_35 : decode cX8_init 35 = .ok (.aload_n 0, 1) := by decide +kernel
theorem dX8_init_36 : decode cX8_init 36 = .ok (.bipush 11, 2) := by decide +kernel
theorem dX8_init_38 : decode cX8_init 38 = .ok (.newarray .int, 2) := by decide +kernel
theorem dX8_init_40 : decode cX8_init 40 = .ok (.dup, 1) := by decide +kernel
theorem dX8_init_41 : decode cX8_init 41 = .ok (.iconst 0, 1) := by decide +kernel
theorem dX8_init_42 : decode cX8_init 42 = .ok (.ldc 31, 2) := by decide +kernel
theorem dX8_init_44 : decode cX8_init 44 = .ok (.invokestatic 33, 3) := by decide +kernel
theorem dX8_init_47 : decode cX8_init 47 = .ok (.iastore, 1) := by decide +kernel
theorem dX8_init_48 : decode cX8_init 48 = .ok (.dup, 1) := by decide +kernel
theorem dX8_init_49 : decode cX8_init 49 = .ok (.iconst 1, 1) := by decide +kernel
theorem dX8_init_50 : decode cX8_init 50 = .ok (.ldc 37, 2) := by decide +kernel
theorem dX8_init_52 : decode cX8_init 52 = .ok (.invokestatic 33, 3) := by decide +kernel
theorem dX8_init_55 : decode cX8_init 55 = .ok (.iastore, 1) := by decide +kernel
theorem dX8_init_56 : decode cX8_init 56 = .ok (.dup, 1) := by decide +kernel
theorem dX8_init_57 : decode cX8_init 57 = .ok (.iconst 2, 1) := by decide +kernel
theorem dX8_init_58 : decode cX8_init 58 = .ok (.ldc 39, 2) := by decide +kernel
theorem dX8_init_60 : decode cX8_init 60 = .ok (.invokestatic 33, 3) := by decide +kernel
theorem dX8_init_63 : decode cX8_init 63 = .ok (.iastore, 1) := by decide +kernel
theorem dX8_init_64 : decode cX8_init 64 = .ok (.dup, 1) := by decide +kernel
theorem dX8_init_65 : decode cX8_init 65 = .ok (.iconst 3, 1) := by decide +kernel
theorem dX8_init_66 : decode cX8_init 66 = .ok (.ldc 41, 2) := by decide +kernel
theorem dX8_init_68 : decode cX8_init 68 = .ok (.invokestatic 33, 3) := by decide +kernel
theorem dX8_init_71 : decode cX8_init 71 = .ok (.iastore, 1) := by decide +kernel
theorem dX8_init_72 : decode cX8_init 72 = .ok (.dup, 1) := by decide +kernel
theorem dX8_init_73 : decode cX8_init 73 = .ok (.iconst 4, 1) := by decide +kernel
theorem dX8_init_74 : decode cX8_init 74 = .ok (.ldc 43, 2) := by decide +kernel
theorem dX8_init_76 : decode cX8_init 76 = .ok (.invokestatic 33, 3) := by decide +kernel
theorem dX8_init_79 : decode cX8_init 79 = .ok (.iastore, 1) := by decide +kernel
theorem dX8_init_80 : decode cX8_init 80 = .ok (.dup, 1) := by decide +kernel
theorem dX8_init_81 : decode cX8_init 81 = .ok (.iconst 5, 1) := by decide +kernel
theorem dX8_init_82 : decode cX8_init 82 = .ok (.ldc 45, 2) := by decide +kernel
theorem dX8_init_84 : decode cX8_init 84 = .ok (.invokestatic 33, 3) := by decide +kernel
theorem dX8_init_87 : decode cX8_init 87 = .ok (.iastore, 1) := by decide +kernel
theorem dX8_init_88 : decode cX8_init 88 = .ok (.dup, 1) := by decide +kernel
theorem dX8_init_89 : decode cX8_init 89 = .ok (.bipush 6, 2) := by decide +kernel
theorem dX8_init_91 : decode cX8_init 91 = .ok (.ldc 47, 2) := by decide +kernel
theorem dX8_init_93 : decode cX8_init 93 = .ok (.invokestatic 33, 3) := by decide +kernel
theorem dX8_init_96 : decode cX8_init 96 = .ok (.iastore, 1) := by decide +kernel
theorem dX8_init_97 : decode cX8_init 97 = .ok (.dup, 1) := by decide +kernel
theorem dX8_init_98 : decode cX8_init 98 = .ok (.bipush 7, 2) := by decide +kernel
theorem dX8_init_100 : decode cX8_init 100 = .ok (.ldc 49, 2) := by decide +kernel
theorem dX8_init_102 : decode cX8_init 102 = .ok (.invokestatic 33, 3) := by decide +kernel
theorem dX8_init_105 : decode cX8_init 105 = .ok (.iastore, 1) := by decide +kernel
theorem dX8_init_106 : decode cX8_init 106 = .ok (.dup, 1) := by decide +kernel
theorem dX8_init_107 : decode cX8_init 107 = .ok (.bipush 8, 2) := by decide +kernel
theorem dX8_init_109 : decode cX8_init 109 = .ok (.ldc 51, 2) := by decide +kernel
theorem dX8_init_111 : decode cX8_init 111 = .ok (.invokestatic 33, 3) := by decide +kernel
theorem dX8_init_114 : decode cX8_init 114 = .ok (.iastore, 1) := by decide +kernel
theorem dX8_init_115 : decode cX8_init 115 = .ok (.dup, 1) := by decide +kernel
theorem dX8_init_116 : decode cX8_init 116 = .ok (.bipush 9, 2) := by decide +kernel
theorem dX8_init_118 : decode cX8_init 118 = .ok (.ldc 53, 2) := by decide +kernel
theorem dX8_init_120 : decode cX8_init 120 = .ok (.invokestatic 33, 3) := by decide +kernel
theorem dX8_init_123 : decode cX8_init 123 = .ok (.iastore, 1) := by decide +kernel
theorem dX8_init_124 : decode cX8_init 124 = .ok (.dup, 1) := by decide +kernel
theorem dX8_init_125 : decode cX8_init 125 = .ok (.bipush 10, 2) := by decide +kernel
theorem dX8_init_127 : decode cX8_init 127 = .ok (.ldc 55, 2) := by decide +kernel
theorem dX8_init_129 : decode cX8_init 129 = .ok (.invokestatic 33, 3) := by decide +kernel
theorem dX8_init_132 : decode cX8_init 132 = .ok (.iastore, 1) := by decide +kernel
theorem dX8_init_133 : decode cX8_init 133 = .ok (.putfield 57, 3) := by decide +kernel
theorem dX8_init_136 : decode cX8_init 136 = .ok (.return_, 1) := by decide +kernel
def rmX8_init : Room := rmk 22 1 11 643
theorem nX8_init : nameOk yX8_init 1 = true := by decide +kernel
def bX8_init_0 (J : JT) : List Value → Sem
  | [.ref x0, .ref x1] =>
    pI 8 2 x0 15 <|
    pI 8 3 x0 0 <|
    pI 8 4 x0 0 <|
    pI 8 5 x0 0 <|
    pI 8 6 x0 0 <|
    pR 8 0 x0 (some x1) <|
    nA 1 11 fun r1 =>
    cI SX10_wordOf [.ref 2000] fun v2 =>
    sA r1 0 v2 <|
    cI SX10_wordOf [.ref 2001] fun v3 =>
    sA r1 1 v3 <|
    cI SX10_wordOf [.ref 2002] fun v4 =>
    sA r1 2 v4 <|
    cI SX10_wordOf [.ref 2003] fun v5 =>
    sA r1 3 v5 <|
    cI SX10_wordOf [.ref 2004] fun v6 =>
    sA r1 4 v6 <|
    cI SX10_wordOf [.ref 2005] fun v7 =>
    sA r1 5 v7 <|
    cI SX10_wordOf [.ref 2006] fun v8 =>
    sA r1 6 v8 <|
    cI SX10_wordOf [.ref 2007] fun v9 =>
    sA r1 7 v9 <|
    cI SX10_wordOf [.ref 2008] fun v10 =>
    sA r1 8 v10 <|
    cI SX10_wordOf [.ref 2009] fun v11 =>
    sA r1 9 v11 <|
    cI SX10_wordOf [.ref 2010] fun v12 =>
    sA r1 10 v12 <|
    pR 8 1 x0 (some r1) <|
    rV
  | _ => no
def bX8_init (J : JT) : JT := fun L a => match L with
  | 0 => bX8_init_0 J a
  | _ => no
def SX8_init : ST := mk 2 bX8_init
def lX8_init (L : Nat) (a : List Value) : Nat × Nat × Nat × List (Nat × Value) × List Value := match L with
  | 0 => (0, 0, 0, lv_args 0 a, [])
  | _ => (0, 0, 0, [], [])
theorem pX8_init_0 {Γ : CT} (hC : Ctx Γ "SpiritWall$Tokens" cX8_init 2 none rmX8_init) (hnt : NT Γ) (hnm : (kMe Γ).name = "<init>") (J : JT) (hJ : ∀ L a, Cor Γ 2 (lX8_init L a).1 (lX8_init L a).2.1 (lX8_init L a).2.2.1 (lX8_init L a).2.2.2.1 (lX8_init L a).2.2.2.2 (J L a)) (a : List Value) : Cor Γ 2 0 0 0 (lv_args 0 a) [] (bX8_init_0 J a) := by
  unfold bX8_init_0
  split
  · rename_i x0 x1
    refine c_sub [0, 1] rfl (loc' := [(0, .ref x0), (1, .ref x1)]) ?_
    refine q_aload_n hC 0 dX8_init_0 rfl rfl ?_
    refine q_oinit hC w_50 w_1 w_oinit ⟨(Nat.le_of_ble_eq_true rfl), (Nat.le_of_ble_eq_true rfl)⟩ dX8_init_1 ?_
    refine q_aload_n hC 0 dX8_init_4 rfl rfl ?_
    refine q_bipush hC (v := 15) dX8_init_5 rfl ?_
    refine q_putI hC (by decide) (by decide) rfl rfl w_51 dX8_init_7 ?_
    refine q_aload_n hC 0 dX8_init_10 rfl rfl ?_
    refine q_iconst hC dX8_init_11 rfl ?_
    refine q_putI hC (by decide) (by decide) rfl rfl w_52 dX8_init_12 ?_
    refine q_aload_n hC 0 dX8_init_15 rfl rfl ?_
    refine q_iconst hC dX8_init_16 rfl ?_
    refine q_putI hC (by decide) (by decide) rfl rfl w_53 dX8_init_17 ?_
    refine q_aload_n hC 0 dX8_init_20 rfl rfl ?_
    refine q_iconst hC dX8_init_21 rfl ?_
    refine q_putI hC (by decide) (by decide) rfl rfl w_54 dX8_init_22 ?_
    refine q_aload_n hC 0 dX8_init_25 rfl rfl ?_
    refine q_iconst hC dX8_init_26 rfl ?_
    refine q_putI hC (by decide) (by decide) rfl rfl w_55 dX8_init_27 ?_
    refine q_aload_n hC 0 dX8_init_30 rfl rfl ?_
    refine q_aload_n hC 1 dX8_init_31 rfl rfl ?_
    refine q_putR hC (by decide) (by decide) rfl (Or.inr ⟨hnm, rfl, rfl⟩) w_56 dX8_init_32 ?_
    refine q_aload_n hC 0 dX8_init_35 rfl rfl ?_
    refine q_bipush hC (v := 11) dX8_init_36 rfl ?_
    refine q_newa hC (atype := .int) (N := 11) (by decide) w_4 rfl (Nat.le_of_ble_eq_true rfl) ⟨(Nat.le_of_ble_eq_true rfl), (Nat.le_of_ble_eq_true rfl)⟩ dX8_init_38 (fun r1 => ?_)
    refine q_dup hC dX8_init_40 ?_
    refine q_iconst hC dX8_init_41 rfl ?_
    refine q_ldcS hC (i := 0) (tx := "mark") (by decide +kernel) dX8_init_42 ?_
    refine q_cNI hC hnt (stk := [.int 0, .ref r1, .ref r1, .ref x0]) (as := [.ref 2000]) sX10_wordOf nX10_wordOf rfl w_57 w_59 w_27 w_58 (Nat.le_of_ble_eq_true rfl) dX8_init_44 rfl (fun v2 => ?_)
    refine q_iast hC dX8_init_47 ?_
    refine q_dup hC dX8_init_48 ?_
    refine q_iconst hC dX8_init_49 rfl ?_
    refine q_ldcS hC (i := 1) (tx := "at") (by decide +kernel) dX8_init_50 ?_
    refine q_cNI hC hnt (stk := [.int 1, .ref r1, .ref r1, .ref x0]) (as := [.ref 2001]) sX10_wordOf nX10_wordOf rfl w_57 w_59 w_27 w_58 (Nat.le_of_ble_eq_true rfl) dX8_init_52 rfl (fun v3 => ?_)
    refine q_iast hC dX8_init_55 ?_
    refine q_dup hC dX8_init_56 ?_
    refine q_iconst hC dX8_init_57 rfl ?_
    refine q_ldcS hC (i := 2) (tx := "sight") (by decide +kernel) dX8_init_58 ?_
    refine q_cNI hC hnt (stk := [.int 2, .ref r1, .ref r1, .ref x0]) (as := [.ref 2002]) sX10_wordOf nX10_wordOf rfl w_57 w_59 w_27 w_58 (Nat.le_of_ble_eq_true rfl) dX8_init_60 rfl (fun v4 => ?_)
    refine q_iast hC dX8_init_63 ?_
    refine q_dup hC dX8_init_64 ?_
    refine q_iconst hC dX8_init_65 rfl ?_
    refine q_ldcS hC (i := 3) (tx := "fore") (by decide +kernel) dX8_init_66 ?_
    refine q_cNI hC hnt (stk := [.int 3, .ref r1, .ref r1, .ref x0]) (as := [.ref 2003]) sX10_wordOf nX10_wordOf rfl w_57 w_59 w_27 w_58 (Nat.le_of_ble_eq_true rfl) dX8_init_68 rfl (fun v5 => ?_)
    refine q_iast hC dX8_init_71 ?_
    refine q_dup hC dX8_init_72 ?_
    refine q_iconst hC dX8_init_73 rfl ?_
    refine q_ldcS hC (i := 4) (tx := "back") (by decide +kernel) dX8_init_74 ?_
    refine q_cNI hC hnt (stk := [.int 4, .ref r1, .ref r1, .ref x0]) (as := [.ref 2004]) sX10_wordOf nX10_wordOf rfl w_57 w_59 w_27 w_58 (Nat.le_of_ble_eq_true rfl) dX8_init_76 rfl (fun v6 => ?_)
    refine q_iast hC dX8_init_79 ?_
    refine q_dup hC dX8_init_80 ?_
    refine q_iconst hC dX8_init_81 rfl ?_
    refine q_ldcS hC (i := 5) (tx := "heat") (by decide +kernel) dX8_init_82 ?_
    refine q_cNI hC hnt (stk := [.int 5, .ref r1, .ref r1, .ref x0]) (as := [.ref 2005]) sX10_wordOf nX10_wordOf rfl w_57 w_59 w_27 w_58 (Nat.le_of_ble_eq_true rfl) dX8_init_84 rfl (fun v7 => ?_)
    refine q_iast hC dX8_init_87 ?_
    refine q_dup hC dX8_init_88 ?_
    refine q_bipush hC (v := 6) dX8_init_89 rfl ?_
    refine q_ldcS hC (i := 6) (tx := "length") (by decide +kernel) dX8_init_91 ?_
    refine q_cNI hC hnt (stk := [.int 6, .ref r1, .ref r1, .ref x0]) (as := [.ref 2006]) sX10_wordOf nX10_wordOf rfl w_57 w_59 w_27 w_58 (Nat.le_of_ble_eq_true rfl) dX8_init_93 rfl (fun v8 => ?_)
    refine q_iast hC dX8_init_96 ?_
    refine q_dup hC dX8_init_97 ?_
    refine q_bipush hC (v := 7) dX8_init_98 rfl ?_
    refine q_ldcS hC (i := 7) (tx := "error") (by decide +kernel) dX8_init_100 ?_
    refine q_cNI hC hnt (stk := [.int 7, .ref r1, .ref r1, .ref x0]) (as := [.ref 2007]) sX10_wordOf nX10_wordOf rfl w_57 w_59 w_27 w_58 (Nat.le_of_ble_eq_true rfl) dX8_init_102 rfl (fun v9 => ?_)
    refine q_iast hC dX8_init_105 ?_
    refine q_dup hC dX8_init_106 ?_
    refine q_bipush hC (v := 8) dX8_init_107 rfl ?_
    refine q_ldcS hC (i := 8) (tx := "bend") (by decide +kernel) dX8_init_109 ?_
    refine q_cNI hC hnt (stk := [.int 8, .ref r1, .ref r1, .ref x0]) (as := [.ref 2008]) sX10_wordOf nX10_wordOf rfl w_57 w_59 w_27 w_58 (Nat.le_of_ble_eq_true rfl) dX8_init_111 rfl (fun v10 => ?_)
    refine q_iast hC dX8_init_114 ?_
    refine q_dup hC dX8_init_115 ?_
    refine q_bipush hC (v := 9) dX8_init_116 rfl ?_
    refine q_ldcS hC (i := 9) (tx := "warm") (by decide +kernel) dX8_init_118 ?_
    refine q_cNI hC hnt (stk := [.int 9, .ref r1, .ref r1, .ref x0]) (as := [.ref 2009]) sX10_wordOf nX10_wordOf rfl w_57 w_59 w_27 w_58 (Nat.le_of_ble_eq_true rfl) dX8_init_120 rfl (fun v11 => ?_)
    refine q_iast hC dX8_init_123 ?_
    refine q_dup hC dX8_init_124 ?_
    refine q_bipush hC (v := 10) dX8_init_125 rfl ?_
    refine q_ldcS hC (i := 10) (tx := "limit") (by decide +kernel) dX8_init_127 ?_
    refine q_cNI hC hnt (stk := [.int 10, .ref r1, .ref r1, .ref x0]) (as := [.ref 2010]) sX10_wordOf nX10_wordOf rfl w_57 w_59 w_27 w_58 (Nat.le_of_ble_eq_true rfl) dX8_init_129 rfl (fun v12 => ?_)
    refine q_iast hC dX8_init_132 ?_
    refine q_putR hC (by decide) (by decide) rfl (Or.inr ⟨hnm, rfl, rfl⟩) w_60 dX8_init_133 ?_
    exact q_vret hC dX8_init_136 (Nat.le_of_ble_eq_true rfl) (Nat.le_of_ble_eq_true rfl)
  · exact c_no
theorem sX8_init : Snd yX8_init (.code yX8_init cX8_init 2 none) rmX8_init SX8_init := by
  refine Snd.of lX8_init (by decide +kernel) (fun _ => rfl) ?_
  intro Γ hC hnt hnm J hJ L a
  match L with
  | 0 => exact pX8_init_0 hC hnt hnm J hJ a
  | L + 1 => exact c_no
/-! SpiritWall$Reader.<init>(LSpiritWall$Text;)V -/
theorem dX5_init_0 : decode cX5_init 0 = .ok (.aload_n 0, 1) := by decide +kernel
theorem dX5_init_1 : decode cX5_init 1 = .ok (.invokespecial 3, 3) := by decide +kernel
theorem dX5_init_4 : decode cX5_init 4 = .ok (.aload_n 0, 1) := by decide +kernel
theorem dX5_init_5 : decode cX5_init 5 = .ok (.new 9, 3) := by decide +kernel
theorem dX5_init_8 : decode cX5_init 8 = .ok (.dup, 1) := by decide +kernel
theorem dX5_init_9 : decode cX5_init 9 = .ok (.invokespecial 11, 3) := by decide +kernel
theorem dX5_init_12 : decode cX5_init 12 = .ok (.putfield 12, 3) := by decide +kernel
theorem dX5_init_15 : decode cX5_init 15 = .ok (.aload_n 0, 1) := by decide +kernel
theorem dX5_init_16 : decode cX5_init 16 = .ok (.new 18, 3) := by decide +kernel
theorem dX5_init_19 : decode cX5_init 19 = .ok (.dup, 1) := by decide +kernel
theorem dX5_init_20 : decode cX5_init 20 = .ok (.invokespecial 20, 3) := by decide +kernel
theorem dX5_init_23 : decode cX5_init 23 = .ok (.putfield 21, 3) := by decide +kernel
theorem dX5_init_26 : decode cX5_init 26 = .ok (.aload_n 0, 1) := by decide +kernel
theorem dX5_init_27 : decode cX5_init 27 = .ok (.iconst 5, 1) := by decide +kernel
theorem dX5_init_28 : decode cX5_init 28 = .ok (.newarray .int, 2) := by decide +kernel
theorem dX5_init_30 : decode cX5_init 30 = .ok (.putfield 25, 3) := by decide +kernel
theorem dX5_init_33 : decode cX5_init 33 = .ok (.aload_n 0, 1) := by decide +kernel
theorem dX5_init_34 : decode cX5_init 34 = .ok (.iconst 0, 1) := by decide +kernel
theorem dX5_init_35 : decode cX5_init 35 = .ok (.putfield 29, 3) := by decide +kernel
theorem dX5_init_38 : decode cX5_init 38 = .ok (.aload_n 0, 1) := by decide +kernel
theorem dX5_init_39 : decode cX5_init 39 = .ok (.iconst (-1), 1) := by decide +kernel
theorem dX5_init_40 : decode cX5_init 40 = .ok (.putfield 33, 3) := by decide +kernel
theorem dX5_init_43 : decode cX5_init 43 = .ok (.aload_n 0, 1) := by decide +kernel
theorem dX5_init_44 : decode cX5_init 44 = .ok (.iconst 0, 1) := by decide +kernel
theorem dX5_init_45 : decode cX5_init 45 = .ok (.putfield 36, 3) := by decide +kernel
theorem dX5_init_48 : decode cX5_init 48 = .ok (.aload_n 0, 1) := by decide +kernel
theorem dX5_init_49 : decode cX5_init 49 = .ok (.new 39, 3) := by decide +kernel
theorem dX5_init_52 : decode cX5_init 52 = .ok (.dup, 1) := by decide +kernel
theorem dX5_init_53 : decode cX5_init 53 = .ok (.aload_n 1, 1) := by decide +kernel
theorem dX5_init_54 : decode cX5_init 54 = .ok (.invokespecial 41, 3) := by decide +kernel
theorem dX5_init_57 : decode cX5_init 57 = .ok (.putfield 44, 3) := by decide +kernel
theorem dX5_init_60 : decode cX5_init 60 = .ok (.return_, 1) := by decide +kernel
def rmX5_init : Room := rmk 23 17 343 664
theorem nX5_init : nameOk yX5_init 1 = true := by decide +kernel
def bX5_init_0 (J : JT) : List Value → Sem
  | [.ref x0, .ref x1] =>
    nO 9 fun r1 =>
    cV SX9_init [.ref r1] <|
    pR 5 1 x0 (some r1) <|
    nO 6 fun r2 =>
    cV SX6_init [.ref r2] <|
    pR 5 2 x0 (some r2) <|
    nA 1 5 fun r3 =>
    pR 5 3 x0 (some r3) <|
    pI 5 4 x0 0 <|
    pI 5 5 x0 (-1) <|
    pI 5 6 x0 0 <|
    nO 8 fun r4 =>
    cV SX8_init [.ref r4, .ref x1] <|
    pR 5 0 x0 (some r4) <|
    rV
  | _ => no
def bX5_init (J : JT) : JT := fun L a => match L with
  | 0 => bX5_init_0 J a
  | _ => no
def SX5_init : ST := mk 2 bX5_init
def lX5_init (L : Nat) (a : List Value) : Nat × Nat × Nat × List (Nat × Value) × List Value := match L with
  | 0 => (0, 0, 0, lv_args 0 a, [])
  | _ => (0, 0, 0, [], [])
theorem pX5_init_0 {Γ : CT} (hC : Ctx Γ "SpiritWall$Reader" cX5_init 2 none rmX5_init) (hnt : NT Γ) (hnm : (kMe Γ).name = "<init>") (J : JT) (hJ : ∀ L a, Cor Γ 2 (lX5_init L a).1 (lX5_init L a).2.1 (lX5_init L a).2.2.1 (lX5_init L a).2.2.2.1 (lX5_init L a).2.2.2.2 (J L a)) (a : List Value) : Cor Γ 2 0 0 0 (lv_args 0 a) [] (bX5_init_0 J a) := by
  unfold bX5_init_0
  split
  · rename_i x0 x1
    refine c_sub [0, 1] rfl (loc' := [(0, .ref x0), (1, .ref x1)]) ?_
    refine q_aload_n hC 0 dX5_init_0 rfl rfl ?_
    refine q_oinit hC w_61 w_1 w_oinit ⟨(Nat.le_of_ble_eq_true rfl), (Nat.le_of_ble_eq_true rfl)⟩ dX5_init_1 ?_
    refine q_aload_n hC 0 dX5_init_4 rfl rfl ?_
    refine q_new hC (by decide) w_81 w_82 w_65 ⟨(Nat.le_of_ble_eq_true rfl), (Nat.le_of_ble_eq_true rfl)⟩ dX5_init_5 (fun r1 => ?_)
    refine q_dup hC dX5_init_8 ?_
    refine q_cINV hC hnt (stk := [.ref r1, .ref x0]) (as := []) sX9_init rfl nX9_init rfl w_62 w_64 w_65 w_63 (Nat.le_of_ble_eq_true rfl) dX5_init_9 rfl ?_
    refine q_putR hC (by decide) (by decide) rfl (Or.inr ⟨hnm, rfl, rfl⟩) w_66 dX5_init_12 ?_
    refine q_aload_n hC 0 dX5_init_15 rfl rfl ?_
    refine q_new hC (by decide) w_80 w_37 w_35 ⟨(Nat.le_of_ble_eq_true rfl), (Nat.le_of_ble_eq_true rfl)⟩ dX5_init_16 (fun r2 => ?_)
    refine q_dup hC dX5_init_19 ?_
    refine q_cIV hC hnt (stk := [.ref r2, .ref x0]) (as := []) sX6_init rfl nX6_init rfl w_67 w_34 w_35 w_33 (Nat.le_of_ble_eq_true rfl) dX5_init_20 rfl ?_
    refine q_putR hC (by decide) (by decide) rfl (Or.inr ⟨hnm, rfl, rfl⟩) w_68 dX5_init_23 ?_
    refine q_aload_n hC 0 dX5_init_26 rfl rfl ?_
    refine q_iconst hC dX5_init_27 rfl ?_
    refine q_newa hC (atype := .int) (N := 5) (by decide) w_4 rfl (Nat.le_of_ble_eq_true rfl) ⟨(Nat.le_of_ble_eq_true rfl), (Nat.le_of_ble_eq_true rfl)⟩ dX5_init_28 (fun r3 => ?_)
    refine q_putR hC (by decide) (by decide) rfl (Or.inr ⟨hnm, rfl, rfl⟩) w_69 dX5_init_30 ?_
    refine q_aload_n hC 0 dX5_init_33 rfl rfl ?_
    refine q_iconst hC dX5_init_34 rfl ?_
    refine q_putI hC (by decide) (by decide) rfl rfl w_70 dX5_init_35 ?_
    refine q_aload_n hC 0 dX5_init_38 rfl rfl ?_
    refine q_iconst hC dX5_init_39 rfl ?_
    refine q_putI hC (by decide) (by decide) rfl rfl w_71 dX5_init_40 ?_
    refine q_aload_n hC 0 dX5_init_43 rfl rfl ?_
    refine q_iconst hC dX5_init_44 rfl ?_
    refine q_putI hC (by decide) (by decide) rfl rfl w_72 dX5_init_45 ?_
    refine q_aload_n hC 0 dX5_init_48 rfl rfl ?_
    refine q_new hC (by decide) w_78 w_79 w_76 ⟨(Nat.le_of_ble_eq_true rfl), (Nat.le_of_ble_eq_true rfl)⟩ dX5_init_49 (fun r4 => ?_)
    refine q_dup hC dX5_init_52 ?_
    refine q_aload_n hC 1 dX5_init_53 rfl rfl ?_
    refine q_cIV hC hnt (stk := [.ref r4, .ref x0]) (as := [.ref x1]) sX8_init rfl nX8_init rfl w_73 w_75 w_76 w_74 (Nat.le_of_ble_eq_true rfl) dX5_init_54 rfl ?_
    refine q_putR hC (by decide) (by decide) rfl (Or.inr ⟨hnm, rfl, rfl⟩) w_77 dX5_init_57 ?_
    exact q_vret hC dX5_init_60 (Nat.le_of_ble_eq_true rfl) (Nat.le_of_ble_eq_true rfl)
  · exact c_no
theorem sX5_init : Snd yX5_init (.code yX5_init cX5_init 2 none) rmX5_init SX5_init := by
  refine Snd.of lX5_init (by decide +kernel) (fun _ => rfl) ?_
  intro Γ hC hnt hnm J hJ L a
  match L with
  | 0 => exact pX5_init_0 hC hnt hnm J hJ a
  | L + 1 => exact c_no
/-! SpiritWall$Edges.<init>(LSpiritWall$Wall;LSpiritWall$State;)V -/
theorem dX0_init_0 : decode cX0_init 0 = .ok (.aload_n 0, 1) := by decide +kernel
theorem dX0_init_1 : decode cX0_init 1 = .ok (.invokespecial 3, 3) := by decide +kernel
theorem dX0_init_4 : decode cX0_init 4 = .ok (.aload_n 0, 1) := by decide +kernel
theorem dX0_init_5 : decode cX0_init 5 = .ok (.iconst 0, 1) := by decide +kernel
theorem dX0_init_6 : decode cX0_init 6 = .ok (.putfield 9, 3) := by decide +kernel
theorem dX0_init_9 : decode cX0_init 9 = .ok (.aload_n 0, 1) := by decide +kernel
theorem dX0_init_10 : decode cX0_init 10 = .ok (.iconst 0, 1) := by decide +kernel
theorem dX0_init_11 : decode cX0_init 11 = .ok (.putfield 15, 3) := by decide +kernel
theorem dX0_init_14 : decode cX0_init 14 = .ok (.aload_n 0, 1) := by decide +kernel
theorem dX0_init_15 : decode cX0_init 15 = .ok (.bipush 40, 2) := by decide +kernel
theorem dX0_init_17 : decode cX0_init 17 = .ok (.newarray .int, 2) := by decide +kernel
theorem dX0_init_19 : decode cX0_init 19 = .ok (.putfield 18, 3) := by decide +kernel
theorem dX0_init_22 : decode cX0_init 22 = .ok (.aload_n 0, 1) := by decide +kernel
theorem dX0_init_23 : decode cX0_init 23 = .ok (.bipush 40, 2) := by decide +kernel
theorem dX0_init_25 : decode cX0_init 25 = .ok (.newarray .int, 2) := by decide +kernel
theorem dX0_init_27 : decode cX0_init 27 = .ok (.putfield 22, 3) := by decide +kernel
theorem dX0_init_30 : decode cX0_init 30 = .ok (.aload_n 0, 1) := by decide +kernel
theorem dX0_init_31 : decode cX0_init 31 = .ok (.bipush 40, 2) := by decide +kernel
theorem dX0_init_33 : decode cX0_init 33 = .ok (.newarray .int, 2) := by decide +kernel
theorem dX0_init_35 : decode cX0_init 35 = .ok (.putfield 25, 3) := by decide +kernel
theorem dX0_init_38 : decode cX0_init 38 = .ok (.aload_n 0, 1) := by decide +kernel
theorem dX0_init_39 : decode cX0_init 39 = .ok (.sipush 144, 3) := by decide +kernel
theorem dX0_init_42 : decode cX0_init 42 = .ok (.newarray .int, 2) := by decide +kernel
theorem dX0_init_44 : decode cX0_init 44 = .ok (.putfield 28, 3) := by decide +kernel
theorem dX0_init_47 : decode cX0_init 47 = .ok (.aload_n 0, 1) := by decide +kernel
theorem dX0_init_48 : decode cX0_init 48 = .ok (.bipush 40, 2) := by decide +kernel
theorem dX0_init_50 : decode cX0_init 50 = .ok (.newarray .int, 2) := by decide +kernel
theorem dX0_init_52 : decode cX0_init 52 = .ok (.putfield 31, 3) := by decide +kernel
theorem dX0_init_55 : decode cX0_init 55 = .ok (.aload_n 0, 1) := by decide +kernel
theorem dX0_init_56 : decode cX0_init 56 = .ok (.bipush 40, 2) := by decide +kernel
theorem dX0_init_58 : decode cX0_init 58 = .ok (.newarray .int, 2) := by decide +kernel
theorem dX0_init_60 : decode cX0_init 60 = .ok (.putfield 34, 3) := by decide +kernel
theorem dX0_init_63 : decode cX0_init 63 = .ok (.aload_n 0, 1) := by decide +kernel
theorem dX0_init_64 : decode cX0_init 64 = .ok (.bipush 40, 2) := by decide +kernel
theorem dX0_init_66 : decode cX0_init 66 = .ok (.newarray .int, 2) := by decide +kernel
theorem dX0_init_68 : decode cX0_init 68 = .ok (.putfield 37, 3) := by decide +kernel
theorem dX0_init_71 : decode cX0_init 71 = .ok (.aload_n 0, 1) := by decide +kernel
theorem dX0_init_72 : decode cX0_init 72 = .ok (.bipush 40, 2) := by decide +kernel
theorem dX0_init_74 : decode cX0_init 74 = .ok (.newarray .int, 2) := by decide +kernel
theorem dX0_init_76 : decode cX0_init 76 = .ok (.putfield 40, 3) := by decide +kernel
theorem dX0_init_79 : decode cX0_init 79 = .ok (.aload_n 0, 1) := by decide +kernel
theorem dX0_init_80 : decode cX0_init 80 = .ok (.bipush 40, 2) := by decide +kernel
theorem dX0_init_82 : decode cX0_init 82 = .ok (.newarray .int, 2) := by decide +kernel
theorem dX0_init_84 : decode cX0_init 84 = .ok (.putfield 43, 3) := by decide +kernel
theorem dX0_init_87 : decode cX0_init 87 = .ok (.aload_n 0, 1) := by decide +kernel
theorem dX0_init_88 : decode cX0_init 88 = .ok (.bipush 40, 2) := by decide +kernel
theorem dX0_init_90 : decode cX0_init 90 = .ok (.newarray .int, 2) := by decide +kernel
theorem dX0_init_92 : decode cX0_init 92 = .ok (.putfield 46, 3) := by decide +kernel
theorem dX0_init_95 : decode cX0_init 95 = .ok (.aload_n 0, 1) := by decide +kernel
theorem dX0_init_96 : decode cX0_init 96 = .ok (.bipush 40, 2) := by decide +kernel
theorem dX0_init_98 : decode cX0_init 98 = .ok (.newarray .int, 2) := by decide +kernel
theorem dX0_init_100 : decode cX0_init 100 = .ok (.putfield 49, 3) := by decide +kernel
theorem dX0_init_103 : decode cX0_init 103 = .ok (.aload_n 0, 1) := by decide +kernel
theorem dX0_init_104 : decode cX0_init 104 = .ok (.bipush 40, 2) := by decide +kernel
theorem dX0_init_106 : decode cX0_init 106 = .ok (.newarray .int, 2) := by decide +kernel
theorem dX0_init_108 : decode cX0_init 108 = .ok (.putfield 52, 3) := by decide +kernel
theorem dX0_init_111 : decode cX0_init 111 = .ok (.aload_n 0, 1) := by decide +kernel
theorem dX0_init_112 : decode cX0_init 112 = .ok (.bipush 40, 2) := by decide +kernel
theorem dX0_init_114 : decode cX0_init 114 = .ok (.newarray .int, 2) := by decide +kernel
theorem dX0_init_116 : decode cX0_init 116 = .ok (.putfield 55, 3) := by decide +kernel
theorem dX0_init_119 : decode cX0_init 119 = .ok (.aload_n 0, 1) := by decide +kernel
theorem dX0_init_120 : decode cX0_init 120 = .ok (.aload_n 1, 1) := by decide +kernel
theorem dX0_init_121 : decode cX0_init 121 = .ok (.putfield 58, 3) := by decide +kernel
theorem dX0_init_124 : decode cX0_init 124 = .ok (.aload_n 0, 1) := by decide +kernel
theorem dX0_init_125 : decode cX0_init 125 = .ok (.aload_n 2, 1) := by decide +kernel
theorem dX0_init_126 : decode cX0_init 126 = .ok (.putfield 62, 3) := by decide +kernel
theorem dX0_init_129 : decode cX0_init 129 = .ok (.return_, 1) := by decide +kernel
def rmX0_init : Room := rmk 6 13 624 150
theorem nX0_init : nameOk yX0_init 2 = true := by decide +kernel
def bX0_init_0 (J : JT) : List Value → Sem
  | [.ref x0, .ref x1, .ref x2] =>
    pI 0 2 x0 0 <|
    pI 0 3 x0 0 <|
    nA 1 40 fun r1 =>
    pR 0 4 x0 (some r1) <|
    nA 1 40 fun r2 =>
    pR 0 5 x0 (some r2) <|
    nA 1 40 fun r3 =>
    pR 0 6 x0 (some r3) <|
    nA 1 144 fun r4 =>
    pR 0 7 x0 (some r4) <|
    nA 1 40 fun r5 =>
    pR 0 8 x0 (some r5) <|
    nA 1 40 fun r6 =>
    pR 0 9 x0 (some r6) <|
    nA 1 40 fun r7 =>
    pR 0 10 x0 (some r7) <|
    nA 1 40 fun r8 =>
    pR 0 11 x0 (some r8) <|
    nA 1 40 fun r9 =>
    pR 0 12 x0 (some r9) <|
    nA 1 40 fun r10 =>
    pR 0 13 x0 (some r10) <|
    nA 1 40 fun r11 =>
    pR 0 14 x0 (some r11) <|
    nA 1 40 fun r12 =>
    pR 0 15 x0 (some r12) <|
    nA 1 40 fun r13 =>
    pR 0 16 x0 (some r13) <|
    pR 0 0 x0 (some x1) <|
    pR 0 1 x0 (some x2) <|
    rV
  | _ => no
def bX0_init (J : JT) : JT := fun L a => match L with
  | 0 => bX0_init_0 J a
  | _ => no
def SX0_init : ST := mk 3 bX0_init
def lX0_init (L : Nat) (a : List Value) : Nat × Nat × Nat × List (Nat × Value) × List Value := match L with
  | 0 => (0, 0, 0, lv_args 0 a, [])
  | _ => (0, 0, 0, [], [])
theorem pX0_init_0 {Γ : CT} (hC : Ctx Γ "SpiritWall$Edges" cX0_init 3 none rmX0_init) (hnt : NT Γ) (hnm : (kMe Γ).name = "<init>") (J : JT) (hJ : ∀ L a, Cor Γ 3 (lX0_init L a).1 (lX0_init L a).2.1 (lX0_init L a).2.2.1 (lX0_init L a).2.2.2.1 (lX0_init L a).2.2.2.2 (J L a)) (a : List Value) : Cor Γ 3 0 0 0 (lv_args 0 a) [] (bX0_init_0 J a) := by
  unfold bX0_init_0
  split
  · rename_i x0 x1 x2
    refine c_sub [0, 1, 2] rfl (loc' := [(0, .ref x0), (1, .ref x1), (2, .ref x2)]) ?_
    refine q_aload_n hC 0 dX0_init_0 rfl rfl ?_
    refine q_oinit hC w_83 w_1 w_oinit ⟨(Nat.le_of_ble_eq_true rfl), (Nat.le_of_ble_eq_true rfl)⟩ dX0_init_1 ?_
    refine q_aload_n hC 0 dX0_init_4 rfl rfl ?_
    refine q_iconst hC dX0_init_5 rfl ?_
    refine q_putI hC (by decide) (by decide) rfl rfl w_84 dX0_init_6 ?_
    refine q_aload_n hC 0 dX0_init_9 rfl rfl ?_
    refine q_iconst hC dX0_init_10 rfl ?_
    refine q_putI hC (by decide) (by decide) rfl rfl w_85 dX0_init_11 ?_
    refine q_aload_n hC 0 dX0_init_14 rfl rfl ?_
    refine q_bipush hC (v := 40) dX0_init_15 rfl ?_
    refine q_newa hC (atype := .int) (N := 40) (by decide) w_4 rfl (Nat.le_of_ble_eq_true rfl) ⟨(Nat.le_of_ble_eq_true rfl), (Nat.le_of_ble_eq_true rfl)⟩ dX0_init_17 (fun r1 => ?_)
    refine q_putR hC (by decide) (by decide) rfl (Or.inr ⟨hnm, rfl, rfl⟩) w_86 dX0_init_19 ?_
    refine q_aload_n hC 0 dX0_init_22 rfl rfl ?_
    refine q_bipush hC (v := 40) dX0_init_23 rfl ?_
    refine q_newa hC (atype := .int) (N := 40) (by decide) w_4 rfl (Nat.le_of_ble_eq_true rfl) ⟨(Nat.le_of_ble_eq_true rfl), (Nat.le_of_ble_eq_true rfl)⟩ dX0_init_25 (fun r2 => ?_)
    refine q_putR hC (by decide) (by decide) rfl (Or.inr ⟨hnm, rfl, rfl⟩) w_87 dX0_init_27 ?_
    refine q_aload_n hC 0 dX0_init_30 rfl rfl ?_
    refine q_bipush hC (v := 40) dX0_init_31 rfl ?_
    refine q_newa hC (atype := .int) (N := 40) (by decide) w_4 rfl (Nat.le_of_ble_eq_true rfl) ⟨(Nat.le_of_ble_eq_true rfl), (Nat.le_of_ble_eq_true rfl)⟩ dX0_init_33 (fun r3 => ?_)
    refine q_putR hC (by decide) (by decide) rfl (Or.inr ⟨hnm, rfl, rfl⟩) w_88 dX0_init_35 ?_
    refine q_aload_n hC 0 dX0_init_38 rfl rfl ?_
    refine q_sipush hC (v := 144) dX0_init_39 rfl ?_
    refine q_newa hC (atype := .int) (N := 144) (by decide) w_4 rfl (Nat.le_of_ble_eq_true rfl) ⟨(Nat.le_of_ble_eq_true rfl), (Nat.le_of_ble_eq_true rfl)⟩ dX0_init_42 (fun r4 => ?_)
    refine q_putR hC (by decide) (by decide) rfl (Or.inr ⟨hnm, rfl, rfl⟩) w_89 dX0_init_44 ?_
    refine q_aload_n hC 0 dX0_init_47 rfl rfl ?_
    refine q_bipush hC (v := 40) dX0_init_48 rfl ?_
    refine q_newa hC (atype := .int) (N := 40) (by decide) w_4 rfl (Nat.le_of_ble_eq_true rfl) ⟨(Nat.le_of_ble_eq_true rfl), (Nat.le_of_ble_eq_true rfl)⟩ dX0_init_50 (fun r5 => ?_)
    refine q_putR hC (by decide) (by decide) rfl (Or.inr ⟨hnm, rfl, rfl⟩) w_90 dX0_init_52 ?_
    refine q_aload_n hC 0 dX0_init_55 rfl rfl ?_
    refine q_bipush hC (v := 40) dX0_init_56 rfl ?_
    refine q_newa hC (atype := .int) (N := 40) (by decide) w_4 rfl (Nat.le_of_ble_eq_true rfl) ⟨(Nat.le_of_ble_eq_true rfl), (Nat.le_of_ble_eq_true rfl)⟩ dX0_init_58 (fun r6 => ?_)
    refine q_putR hC (by decide) (by decide) rfl (Or.inr ⟨hnm, rfl, rfl⟩) w_91 dX0_init_60 ?_
    refine q_aload_n hC 0 dX0_init_63 rfl rfl ?_
    refine q_bipush hC (v := 40) dX0_init_64 rfl ?_
    refine q_newa hC (atype := .int) (N := 40) (by decide) w_4 rfl (Nat.le_of_ble_eq_true rfl) ⟨(Nat.le_of_ble_eq_true rfl), (Nat.le_of_ble_eq_true rfl)⟩ dX0_init_66 (fun r7 => ?_)
    refine q_putR hC (by decide) (by decide) rfl (Or.inr ⟨hnm, rfl, rfl⟩) w_92 dX0_init_68 ?_
    refine q_aload_n hC 0 dX0_init_71 rfl rfl ?_
    refine q_bipush hC (v := 40) dX0_init_72 rfl ?_
    refine q_newa hC (atype := .int) (N := 40) (by decide) w_4 rfl (Nat.le_of_ble_eq_true rfl) ⟨(Nat.le_of_ble_eq_true rfl), (Nat.le_of_ble_eq_true rfl)⟩ dX0_init_74 (fun r8 => ?_)
    refine q_putR hC (by decide) (by decide) rfl (Or.inr ⟨hnm, rfl, rfl⟩) w_93 dX0_init_76 ?_
    refine q_aload_n hC 0 dX0_init_79 rfl rfl ?_
    refine q_bipush hC (v := 40) dX0_init_80 rfl ?_
    refine q_newa hC (atype := .int) (N := 40) (by decide) w_4 rfl (Nat.le_of_ble_eq_true rfl) ⟨(Nat.le_of_ble_eq_true rfl), (Nat.le_of_ble_eq_true rfl)⟩ dX0_init_82 (fun r9 => ?_)
    refine q_putR hC (by decide) (by decide) rfl (Or.inr ⟨hnm, rfl, rfl⟩) w_94 dX0_init_84 ?_
    refine q_aload_n hC 0 dX0_init_87 rfl rfl ?_
    refine q_bipush hC (v := 40) dX0_init_88 rfl ?_
    refine q_newa hC (atype := .int) (N := 40) (by decide) w_4 rfl (Nat.le_of_ble_eq_true rfl) ⟨(Nat.le_of_ble_eq_true rfl), (Nat.le_of_ble_eq_true rfl)⟩ dX0_init_90 (fun r10 => ?_)
    refine q_putR hC (by decide) (by decide) rfl (Or.inr ⟨hnm, rfl, rfl⟩) w_95 dX0_init_92 ?_
    refine q_aload_n hC 0 dX0_init_95 rfl rfl ?_
    refine q_bipush hC (v := 40) dX0_init_96 rfl ?_
    refine q_newa hC (atype := .int) (N := 40) (by decide) w_4 rfl (Nat.le_of_ble_eq_true rfl) ⟨(Nat.le_of_ble_eq_true rfl), (Nat.le_of_ble_eq_true rfl)⟩ dX0_init_98 (fun r11 => ?_)
    refine q_putR hC (by decide) (by decide) rfl (Or.inr ⟨hnm, rfl, rfl⟩) w_96 dX0_init_100 ?_
    refine q_aload_n hC 0 dX0_init_103 rfl rfl ?_
    refine q_bipush hC (v := 40) dX0_init_104 rfl ?_
    refine q_newa hC (atype := .int) (N := 40) (by decide) w_4 rfl (Nat.le_of_ble_eq_true rfl) ⟨(Nat.le_of_ble_eq_true rfl), (Nat.le_of_ble_eq_true rfl)⟩ dX0_init_106 (fun r12 => ?_)
    refine q_putR hC (by decide) (by decide) rfl (Or.inr ⟨hnm, rfl, rfl⟩) w_97 dX0_init_108 ?_
    refine q_aload_n hC 0 dX0_init_111 rfl rfl ?_
    refine q_bipush hC (v := 40) dX0_init_112 rfl ?_
    refine q_newa hC (atype := .int) (N := 40) (by decide) w_4 rfl (Nat.le_of_ble_eq_true rfl) ⟨(Nat.le_of_ble_eq_true rfl), (Nat.le_of_ble_eq_true rfl)⟩ dX0_init_114 (fun r13 => ?_)
    refine q_putR hC (by decide) (by decide) rfl (Or.inr ⟨hnm, rfl, rfl⟩) w_98 dX0_init_116 ?_
    refine q_aload_n hC 0 dX0_init_119 rfl rfl ?_
    refine q_aload_n hC 1 dX0_init_120 rfl rfl ?_
    refine q_putR hC (by decide) (by decide) rfl (Or.inr ⟨hnm, rfl, rfl⟩) w_99 dX0_init_121 ?_
    refine q_aload_n hC 0 dX0_init_124 rfl rfl ?_
    refine q_aload_n hC 2 dX0_init_125 rfl rfl ?_
    refine q_putR hC (by decide) (by decide) rfl (Or.inl rfl) w_100 dX0_init_126 ?_
    exact q_vret hC dX0_init_129 (Nat.le_of_ble_eq_true rfl) (Nat.le_of_ble_eq_true rfl)
  · exact c_no
theorem sX0_init : Snd yX0_init (.code yX0_init cX0_init 3 none) rmX0_init SX0_init := by
  refine Snd.of lX0_init (by decide +kernel) (fun _ => rfl) ?_
  intro Γ hC hnt hnm J hJ L a
  match L with
  | 0 => exact pX0_init_0 hC hnt hnm J hJ a
  | L + 1 => exact c_no
/-! SpiritWall$Forest.<init>(LSpiritWall$Edges;)V -/
theorem dX1_init_0 : decode cX1_init 0 = .ok (.aload_n 0, 1) := by decide +kernel
theorem dX1_init_1 : decode cX1_init 1 = .ok (.invokespecial 3, 3) := by decide +kernel
theorem dX1_init_4 : decode cX1_init 4 = .ok (.aload_n 0, 1) := by decide +kernel
theorem dX1_init_5 : decode cX1_init 5 = .ok (.iconst 0, 1) := by decide +kernel
theorem dX1_init_6 : decode cX1_init 6 = .ok (.putfield 9, 3) := by decide +kernel
theorem dX1_init_9 : decode cX1_init 9 = .ok (.aload_n 0, 1) := by decide +kernel
theorem dX1_init_10 : decode cX1_init 10 = .ok (.bipush 40, 2) := by decide +kernel
theorem dX1_init_12 : decode cX1_init 12 = .ok (.newarray .int, 2) := by decide +kernel
theorem dX1_init_14 : decode cX1_init 14 = .ok (.putfield 15, 3) := by decide +kernel
theorem dX1_init_17 : decode cX1_init 17 = .ok (.aload_n 0, 1) := by decide +kernel
theorem dX1_init_18 : decode cX1_init 18 = .ok (.bipush 40, 2) := by decide +kernel
theorem dX1_init_20 : decode cX1_init 20 = .ok (.newarray .int, 2) := by decide +kernel
theorem dX1_init_22 : decode cX1_init 22 = .ok (.putfield 19, 3) := by decide +kernel
theorem dX1_init_25 : decode cX1_init 25 = .ok (.aload_n 0, 1) := by decide +kernel
theorem dX1_init_26 : decode cX1_init 26 = .ok (.bipush 12, 2) := by decide +kernel
theorem dX1_init_28 : decode cX1_init 28 = .ok (.newarray .int, 2) := by decide +kernel
theorem dX1_init_30 : decode cX1_init 30 = .ok (.putfield 22, 3) := by decide +kernel
theorem dX1_init_33 : decode cX1_init 33 = .ok (.aload_n 0, 1) := by decide +kernel
theorem dX1_init_34 : decode cX1_init 34 = .ok (.sipush 144, 3) := by decide +kernel
theorem dX1_init_37 : decode cX1_init 37 = .ok (.newarray .int, 2) := by decide +kernel
theorem dX1_init_39 : decode cX1_init 39 = .ok (.putfield 25, 3) := by decide +kernel
theorem dX1_init_42 : decode cX1_init 42 = .ok (.aload_n 0, 1) := by decide +kernel
theorem dX1_init_43 : decode cX1_init 43 = .ok (.sipush 144, 3) := by decide +kernel
theorem dX1_init_46 : decode cX1_init 46 = .ok (.newarray .int, 2) := by decide +kernel
theorem dX1_init_48 : decode cX1_init 48 = .ok (.putfield 28, 3) := by decide +kernel
theorem dX1_init_51 : decode cX1_init 51 = .ok (.aload_n 0, 1) := by decide +kernel
theorem dX1_init_52 : decode cX1_init 52 = .ok (.aload_n 1, 1) := by decide +kernel
theorem dX1_init_53 : decode cX1_init 53 = .ok (.putfield 31, 3) := by decide +kernel
theorem dX1_init_56 : decode cX1_init 56 = .ok (.return_, 1) := by decide +kernel
def rmX1_init : Room := rmk 6 5 380 150
theorem nX1_init : nameOk yX1_init 1 = true := by decide +kernel
def bX1_init_0 (J : JT) : List Value → Sem
  | [.ref x0, .ref x1] =>
    pI 1 1 x0 0 <|
    nA 1 40 fun r1 =>
    pR 1 2 x0 (some r1) <|
    nA 1 40 fun r2 =>
    pR 1 3 x0 (some r2) <|
    nA 1 12 fun r3 =>
    pR 1 4 x0 (some r3) <|
    nA 1 144 fun r4 =>
    pR 1 5 x0 (some r4) <|
    nA 1 144 fun r5 =>
    pR 1 6 x0 (some r5) <|
    pR 1 0 x0 (some x1) <|
    rV
  | _ => no
def bX1_init (J : JT) : JT := fun L a => match L with
  | 0 => bX1_init_0 J a
  | _ => no
def SX1_init : ST := mk 2 bX1_init
def lX1_init (L : Nat) (a : List Value) : Nat × Nat × Nat × List (Nat × Value) × List Value := match L with
  | 0 => (0, 0, 0, lv_args 0 a, [])
  | _ => (0, 0, 0, [], [])
theorem pX1_init_0 {Γ : CT} (hC : Ctx Γ "SpiritWall$Forest" cX1_init 2 none rmX1_init) (hnt : NT Γ) (hnm : (kMe Γ).name = "<init>") (J : JT) (hJ : ∀ L a, Cor Γ 2 (lX1_init L a).1 (lX1_init L a).2.1 (lX1_init L a).2.2.1 (lX1_init L a).2.2.2.1 (lX1_init L a).2.2.2.2 (J L a)) (a : List Value) : Cor Γ 2 0 0 0 (lv_args 0 a) [] (bX1_init_0 J a) := by
  unfold bX1_init_0
  split
  · rename_i x0 x1
    refine c_sub [0, 1] rfl (loc' := [(0, .ref x0), (1, .ref x1)]) ?_
    refine q_aload_n hC 0 dX1_init_0 rfl rfl ?_
    refine q_oinit hC w_101 w_1 w_oinit ⟨(Nat.le_of_ble_eq_true rfl), (Nat.le_of_ble_eq_true rfl)⟩ dX1_init_1 ?_
    refine q_aload_n hC 0 dX1_init_4 rfl rfl ?_
    refine q_iconst hC dX1_init_5 rfl ?_
    refine q_putI hC (by decide) (by decide) rfl rfl w_102 dX1_init_6 ?_
    refine q_aload_n hC 0 dX1_init_9 rfl rfl ?_
    refine q_bipush hC (v := 40) dX1_init_10 rfl ?_
    refine q_newa hC (atype := .int) (N := 40) (by decide) w_4 rfl (Nat.le_of_ble_eq_true rfl) ⟨(Nat.le_of_ble_eq_true rfl), (Nat.le_of_ble_eq_true rfl)⟩ dX1_init_12 (fun r1 => ?_)
    refine q_putR hC (by decide) (by decide) rfl (Or.inr ⟨hnm, rfl, rfl⟩) w_103 dX1_init_14 ?_
    refine q_aload_n hC 0 dX1_init_17 rfl rfl ?_
    refine q_bipush hC (v := 40) dX1_init_18 rfl ?_
    refine q_newa hC (atype := .int) (N := 40) (by decide) w_4 rfl (Nat.le_of_ble_eq_true rfl) ⟨(Nat.le_of_ble_eq_true rfl), (Nat.le_of_ble_eq_true rfl)⟩ dX1_init_20 (fun r2 => ?_)
    refine q_putR hC (by decide) (by decide) rfl (Or.inr ⟨hnm, rfl, rfl⟩) w_104 dX1_init_22 ?_
    refine q_aload_n hC 0 dX1_init_25 rfl rfl ?_
    refine q_bipush hC (v := 12) dX1_init_26 rfl ?_
    refine q_newa hC (atype := .int) (N := 12) (by decide) w_4 rfl (Nat.le_of_ble_eq_true rfl) ⟨(Nat.le_of_ble_eq_true rfl), (Nat.le_of_ble_eq_true rfl)⟩ dX1_init_28 (fun r3 => ?_)
    refine q_putR hC (by decide) (by decide) rfl (Or.inr ⟨hnm, rfl, rfl⟩) w_105 dX1_init_30 ?_
    refine q_aload_n hC 0 dX1_init_33 rfl rfl ?_
    refine q_sipush hC (v := 144) dX1_init_34 rfl ?_
    refine q_newa hC (atype := .int) (N := 144) (by decide) w_4 rfl (Nat.le_of_ble_eq_true rfl) ⟨(Nat.le_of_ble_eq_true rfl), (Nat.le_of_ble_eq_true rfl)⟩ dX1_init_37 (fun r4 => ?_)
    refine q_putR hC (by decide) (by decide) rfl (Or.inr ⟨hnm, rfl, rfl⟩) w_106 dX1_init_39 ?_
    refine q_aload_n hC 0 dX1_init_42 rfl rfl ?_
    refine q_sipush hC (v := 144) dX1_init_43 rfl ?_
    refine q_newa hC (atype := .int) (N := 144) (by decide) w_4 rfl (Nat.le_of_ble_eq_true rfl) ⟨(Nat.le_of_ble_eq_true rfl), (Nat.le_of_ble_eq_true rfl)⟩ dX1_init_46 (fun r5 => ?_)
    refine q_putR hC (by decide) (by decide) rfl (Or.inr ⟨hnm, rfl, rfl⟩) w_107 dX1_init_48 ?_
    refine q_aload_n hC 0 dX1_init_51 rfl rfl ?_
    refine q_aload_n hC 1 dX1_init_52 rfl rfl ?_
    refine q_putR hC (by decide) (by decide) rfl (Or.inr ⟨hnm, rfl, rfl⟩) w_108 dX1_init_53 ?_
    exact q_vret hC dX1_init_56 (Nat.le_of_ble_eq_true rfl) (Nat.le_of_ble_eq_true rfl)
  · exact c_no
theorem sX1_init : Snd yX1_init (.code yX1_init cX1_init 2 none) rmX1_init SX1_init := by
  refine Snd.of lX1_init (by decide +kernel) (fun _ => rfl) ?_
  intro Γ hC hnt hnm J hJ L a
  match L with
  | 0 => exact pX1_init_0 hC hnt hnm J hJ a
  | L + 1 => exact c_no
/-! SpiritWall$Loops.<init>(LSpiritWall$Edges;LSpiritWall$Forest;)V -/
theorem dX4_init_0 : decode cX4_init 0 = .ok (.aload_n 0, 1) := by decide +kernel
theorem dX4_init_1 : decode cX4_init 1 = .ok (.invokespecial 3, 3) := by decide +kernel
theorem dX4_init_4 : decode cX4_init 4 = .ok (.aload_n 0, 1) := by decide +kernel
theorem dX4_init_5 : decode cX4_init 5 = .ok (.iconst 0, 1) := by decide +kernel
theorem dX4_init_6 : decode cX4_init 6 = .ok (.putfield 9, 3) := by decide +kernel
theorem dX4_init_9 : decode cX4_init 9 = .ok (.aload_n 0, 1) := by decide +kernel
theorem dX4_init_10 : decode cX4_init 10 = .ok (.iconst 0, 1) := by decide +kernel
theorem dX4_init_11 : decode cX4_init 11 = .ok (.putfield 15, 3) := by decide +kernel
theorem dX4_init_14 : decode cX4_init 14 = .ok (.aload_n 0, 1) := by decide +kernel
theorem dX4_init_15 : decode cX4_init 15 = .ok (.bipush 40, 2) := by decide +kernel
theorem dX4_init_17 : decode cX4_init 17 = .ok (.newarray .int, 2) := by decide +kernel
theorem dX4_init_19 : decode cX4_init 19 = .ok (.putfield 18, 3) := by decide +kernel
theorem dX4_init_22 : decode cX4_init 22 = .ok (.aload_n 0, 1) := by decide +kernel
theorem dX4_init_23 : decode cX4_init 23 = .ok (.bipush 40, 2) := by decide +kernel
theorem dX4_init_25 : decode cX4_init 25 = .ok (.newarray .int, 2) := by decide +kernel
theorem dX4_init_27 : decode cX4_init 27 = .ok (.putfield 22, 3) := by decide +kernel
theorem dX4_init_30 : decode cX4_init 30 = .ok (.aload_n 0, 1) := by decide +kernel
theorem dX4_init_31 : decode cX4_init 31 = .ok (.bipush 40, 2) := by decide +kernel
theorem dX4_init_33 : decode cX4_init 33 = .ok (.newarray .int, 2) := by decide +kernel
theorem dX4_init_35 : decode cX4_init 35 = .ok (.putfield 25, 3) := by decide +kernel
theorem dX4_init_38 : decode cX4_init 38 = .ok (.aload_n 0, 1) := by decide +kernel
theorem dX4_init_39 : decode cX4_init 39 = .ok (.sipush 480, 3) := by decide +kernel
theorem dX4_init_42 : decode cX4_init 42 = .ok (.newarray .int, 2) := by decide +kernel
theorem dX4_init_44 : decode cX4_init 44 = .ok (.putfield 28, 3) := by decide +kernel
theorem dX4_init_47 : decode cX4_init 47 = .ok (.aload_n 0, 1) := by decide +kernel
theorem dX4_init_48 : decode cX4_init 48 = .ok (.bipush 40, 2) := by decide +kernel
theorem dX4_init_50 : decode cX4_init 50 = .ok (.newarray .int, 2) := by decide +kernel
theorem dX4_init_52 : decode cX4_init 52 = .ok (.putfield 31, 3) := by decide +kernel
theorem dX4_init_55 : decode cX4_init 55 = .ok (.aload_n 0, 1) := by decide +kernel
theorem dX4_init_56 : decode cX4_init 56 = .ok (.bipush 40, 2) := by decide +kernel
theorem dX4_init_58 : decode cX4_init 58 = .ok (.newarray .int, 2) := by decide +kernel
theorem dX4_init_60 : decode cX4_init 60 = .ok (.putfield 34, 3) := by decide +kernel
theorem dX4_init_63 : decode cX4_init 63 = .ok (.aload_n 0, 1) := by decide +kernel
theorem dX4_init_64 : decode cX4_init 64 = .ok (.aload_n 1, 1) := by decide +kernel
theorem dX4_init_65 : decode cX4_init 65 = .ok (.putfield 37, 3) := by decide +kernel
theorem dX4_init_68 : decode cX4_init 68 = .ok (.aload_n 0, 1) := by decide +kernel
theorem dX4_init_69 : decode cX4_init 69 = .ok (.aload_n 2, 1) := by decide +kernel
theorem dX4_init_70 : decode cX4_init 70 = .ok (.putfield 41, 3) := by decide +kernel
theorem dX4_init_73 : decode cX4_init 73 = .ok (.return_, 1) := by decide +kernel
def rmX4_init : Room := rmk 6 6 680 150
theorem nX4_init : nameOk yX4_init 2 = true := by decide +kernel
def bX4_init_0 (J : JT) : List Value → Sem
  | [.ref x0, .ref x1, .ref x2] =>
    pI 4 2 x0 0 <|
    pI 4 3 x0 0 <|
    nA 1 40 fun r1 =>
    pR 4 4 x0 (some r1) <|
    nA 1 40 fun r2 =>
    pR 4 5 x0 (some r2) <|
    nA 1 40 fun r3 =>
    pR 4 6 x0 (some r3) <|
    nA 1 480 fun r4 =>
    pR 4 7 x0 (some r4) <|
    nA 1 40 fun r5 =>
    pR 4 8 x0 (some r5) <|
    nA 1 40 fun r6 =>
    pR 4 9 x0 (some r6) <|
    pR 4 0 x0 (some x1) <|
    pR 4 1 x0 (some x2) <|
    rV
  | _ => no
def bX4_init (J : JT) : JT := fun L a => match L with
  | 0 => bX4_init_0 J a
  | _ => no
def SX4_init : ST := mk 3 bX4_init
def lX4_init (L : Nat) (a : List Value) : Nat × Nat × Nat × List (Nat × Value) × List Value := match L with
  | 0 => (0, 0, 0, lv_args 0 a, [])
  | _ => (0, 0, 0, [], [])
theorem pX4_init_0 {Γ : CT} (hC : Ctx Γ "SpiritWall$Loops" cX4_init 3 none rmX4_init) (hnt : NT Γ) (hnm : (kMe Γ).name = "<init>") (J : JT) (hJ : ∀ L a, Cor Γ 3 (lX4_init L a).1 (lX4_init L a).2.1 (lX4_init L a).2.2.1 (lX4_init L a).2.2.2.1 (lX4_init L a).2.2.2.2 (J L a)) (a : List Value) : Cor Γ 3 0 0 0 (lv_args 0 a) [] (bX4_init_0 J a) := by
  unfold bX4_init_0
  split
  · rename_i x0 x1 x2
    refine c_sub [0, 1, 2] rfl (loc' := [(0, .ref x0), (1, .ref x1), (2, .ref x2)]) ?_
    refine q_aload_n hC 0 dX4_init_0 rfl rfl ?_
    refine q_oinit hC w_109 w_1 w_oinit ⟨(Nat.le_of_ble_eq_true rfl), (Nat.le_of_ble_eq_true rfl)⟩ dX4_init_1 ?_
    refine q_aload_n hC 0 dX4_init_4 rfl rfl ?_
    refine q_iconst hC dX4_init_5 rfl ?_
    refine q_putI hC (by decide) (by decide) rfl rfl w_110 dX4_init_6 ?_
    refine q_aload_n hC 0 dX4_init_9 rfl rfl ?_
    refine q_iconst hC dX4_init_10 rfl ?_
    refine q_putI hC (by decide) (by decide) rfl rfl w_111 dX4_init_11 ?_
    refine q_aload_n hC 0 dX4_init_14 rfl rfl ?_
    refine q_bipush hC (v := 40) dX4_init_15 rfl ?_
    refine q_newa hC (atype := .int) (N := 40) (by decide) w_4 rfl (Nat.le_of_ble_eq_true rfl) ⟨(Nat.le_of_ble_eq_true rfl), (Nat.le_of_ble_eq_true rfl)⟩ dX4_init_17 (fun r1 => ?_)
    refine q_putR hC (by decide) (by decide) rfl (Or.inr ⟨hnm, rfl, rfl⟩) w_112 dX4_init_19 ?_
    refine q_aload_n hC 0 dX4_init_22 rfl rfl ?_
    refine q_bipush hC (v := 40) dX4_init_23 rfl ?_
    refine q_newa hC (atype := .int) (N := 40) (by decide) w_4 rfl (Nat.le_of_ble_eq_true rfl) ⟨(Nat.le_of_ble_eq_true rfl), (Nat.le_of_ble_eq_true rfl)⟩ dX4_init_25 (fun r2 => ?_)
    refine q_putR hC (by decide) (by decide) rfl (Or.inr ⟨hnm, rfl, rfl⟩) w_113 dX4_init_27 ?_
    refine q_aload_n hC 0 dX4_init_30 rfl rfl ?_
    refine q_bipush hC (v := 40) dX4_init_31 rfl ?_
    refine q_newa hC (atype := .int) (N := 40) (by decide) w_4 rfl (Nat.le_of_ble_eq_true rfl) ⟨(Nat.le_of_ble_eq_true rfl), (Nat.le_of_ble_eq_true rfl)⟩ dX4_init_33 (fun r3 => ?_)
    refine q_putR hC (by decide) (by decide) rfl (Or.inr ⟨hnm, rfl, rfl⟩) w_114 dX4_init_35 ?_
    refine q_aload_n hC 0 dX4_init_38 rfl rfl ?_
    refine q_sipush hC (v := 480) dX4_init_39 rfl ?_
    refine q_newa hC (atype := .int) (N := 480) (by decide) w_4 rfl (Nat.le_of_ble_eq_true rfl) ⟨(Nat.le_of_ble_eq_true rfl), (Nat.le_of_ble_eq_true rfl)⟩ dX4_init_42 (fun r4 => ?_)
    refine q_putR hC (by decide) (by decide) rfl (Or.inr ⟨hnm, rfl, rfl⟩) w_115 dX4_init_44 ?_
    refine q_aload_n hC 0 dX4_init_47 rfl rfl ?_
    refine q_bipush hC (v := 40) dX4_init_48 rfl ?_
    refine q_newa hC (atype := .int) (N := 40) (by decide) w_4 rfl (Nat.le_of_ble_eq_true rfl) ⟨(Nat.le_of_ble_eq_true rfl), (Nat.le_of_ble_eq_true rfl)⟩ dX4_init_50 (fun r5 => ?_)
    refine q_putR hC (by decide) (by decide) rfl (Or.inr ⟨hnm, rfl, rfl⟩) w_116 dX4_init_52 ?_
    refine q_aload_n hC 0 dX4_init_55 rfl rfl ?_
    refine q_bipush hC (v := 40) dX4_init_56 rfl ?_
    refine q_newa hC (atype := .int) (N := 40) (by decide) w_4 rfl (Nat.le_of_ble_eq_true rfl) ⟨(Nat.le_of_ble_eq_true rfl), (Nat.le_of_ble_eq_true rfl)⟩ dX4_init_58 (fun r6 => ?_)
    refine q_putR hC (by decide) (by decide) rfl (Or.inr ⟨hnm, rfl, rfl⟩) w_117 dX4_init_60 ?_
    refine q_aload_n hC 0 dX4_init_63 rfl rfl ?_
    refine q_aload_n hC 1 dX4_init_64 rfl rfl ?_
    refine q_putR hC (by decide) (by decide) rfl (Or.inr ⟨hnm, rfl, rfl⟩) w_118 dX4_init_65 ?_
    refine q_aload_n hC 0 dX4_init_68 rfl rfl ?_
    refine q_aload_n hC 2 dX4_init_69 rfl rfl ?_
    refine q_putR hC (by decide) (by decide) rfl (Or.inr ⟨hnm, rfl, rfl⟩) w_119 dX4_init_70 ?_
    exact q_vret hC dX4_init_73 (Nat.le_of_ble_eq_true rfl) (Nat.le_of_ble_eq_true rfl)
  · exact c_no
theorem sX4_init : Snd yX4_init (.code yX4_init cX4_init 3 none) rmX4_init SX4_init := by
  refine Snd.of lX4_init (by decide +kernel) (fun _ => rfl) ?_
  intro Γ hC hnt hnm J hJ L a
  match L with
  | 0 => exact pX4_init_0 hC hnt hnm J hJ a
  | L + 1 => exact c_no
/-! SpiritWall$Heights.<init>(LSpiritWall$Edges;)V -/
theorem dX2_init_0 : decode cX2_init 0 = .ok (.aload_n 0, 1) := by decide +kernel
theorem dX2_init_1 : decode cX2_init 1 = .ok (.invokespecial 3, 3) := by decide +kernel
theorem dX2_init_4 : decode cX2_init 4 = .ok (.aload_n 0, 1) := by decide +kernel
theorem dX2_init_5 : decode cX2_init 5 = .ok (.bipush 12, 2) := by decide +kernel
theorem dX2_init_7 : decode cX2_init 7 = .ok (.newarray .int, 2) := by decide +kernel
theorem dX2_init_9 : decode cX2_init 9 = .ok (.putfield 9, 3) := by decide +kernel
theorem dX2_init_12 : decode cX2_init 12 = .ok (.aload_n 0, 1) := by decide +kernel
theorem dX2_init_13 : decode cX2_init 13 = .ok (.aload_n 1, 1) := by decide +kernel
theorem dX2_init_14 : decode cX2_init 14 = .ok (.putfield 15, 3) := by decide +kernel
theorem dX2_init_17 : decode cX2_init 17 = .ok (.return_, 1) := by decide +kernel
def rmX2_init : Room := rmk 6 1 12 150
theorem nX2_init : nameOk yX2_init 1 = true := by decide +kernel
def bX2_init_0 (J : JT) : List Value → Sem
  | [.ref x0, .ref x1] =>
    nA 1 12 fun r1 =>
    pR 2 1 x0 (some r1) <|
    pR 2 0 x0 (some x1) <|
    rV
  | _ => no
def bX2_init (J : JT) : JT := fun L a => match L with
  | 0 => bX2_init_0 J a
  | _ => no
def SX2_init : ST := mk 2 bX2_init
def lX2_init (L : Nat) (a : List Value) : Nat × Nat × Nat × List (Nat × Value) × List Value := match L with
  | 0 => (0, 0, 0, lv_args 0 a, [])
  | _ => (0, 0, 0, [], [])
theorem pX2_init_0 {Γ : CT} (hC : Ctx Γ "SpiritWall$Heights" cX2_init 2 none rmX2_init) (hnt : NT Γ) (hnm : (kMe Γ).name = "<init>") (J : JT) (hJ : ∀ L a, Cor Γ 2 (lX2_init L a).1 (lX2_init L a).2.1 (lX2_init L a).2.2.1 (lX2_init L a).2.2.2.1 (lX2_init L a).2.2.2.2 (J L a)) (a : List Value) : Cor Γ 2 0 0 0 (lv_args 0 a) [] (bX2_init_0 J a) := by
  unfold bX2_init_0
  split
  · rename_i x0 x1
    refine c_sub [0, 1] rfl (loc' := [(0, .ref x0), (1, .ref x1)]) ?_
    refine q_aload_n hC 0 dX2_init_0 rfl rfl ?_
    refine q_oinit hC w_120 w_1 w_oinit ⟨(Nat.le_of_ble_eq_true rfl), (Nat.le_of_ble_eq_true rfl)⟩ dX2_init_1 ?_
    refine q_aload_n hC 0 dX2_init_4 rfl rfl ?_
    refine q_bipush hC (v := 12) dX2_init_5 rfl ?_
    refine q_newa hC (atype := .int) (N := 12) (by decide) w_4 rfl (Nat.le_of_ble_eq_true rfl) ⟨(Nat.le_of_ble_eq_true rfl), (Nat.le_of_ble_eq_true rfl)⟩ dX2_init_7 (fun r1 => ?_)
    refine q_putR hC (by decide) (by decide) rfl (Or.inr ⟨hnm, rfl, rfl⟩) w_121 dX2_init_9 ?_
    refine q_aload_n hC 0 dX2_init_12 rfl rfl ?_
    refine q_aload_n hC 1 dX2_init_13 rfl rfl ?_
    refine q_putR hC (by decide) (by decide) rfl (Or.inr ⟨hnm, rfl, rfl⟩) w_122 dX2_init_14 ?_
    exact q_vret hC dX2_init_17 (Nat.le_of_ble_eq_true rfl) (Nat.le_of_ble_eq_true rfl)
  · exact c_no
theorem sX2_init : Snd yX2_init (.code yX2_init cX2_init 2 none) rmX2_init SX2_init := by
  refine Snd.of lX2_init (by decide +kernel) (fun _ => rfl) ?_
  intro Γ hC hnt hnm J hJ L a
  match L with
  | 0 => exact pX2_init_0 hC hnt hnm J hJ a
  | L + 1 => exact c_no
/-! SpiritWall.<init>()V -/
theorem dX10_init_0 : decode cX10_init 0 = .ok (.aload_n 0, 1) := by decide +kernel
theorem dX10_init_1 : decode cX10_init 1 = .ok (.invokespecial 3, 3) := by decide +kernel
theorem dX10_init_4 : decode cX10_init 4 = .ok (.aload_n 0, 1) := by decide +kernel
theorem dX10_init_5 : decode cX10_init 5 = .ok (.new 9, 3) := by decide +kernel
theorem dX10_init_8 : decode cX10_init 8 = .ok (.dup, 1) := by decide +kernel
theorem dX10_init_9 : decode cX10_init 9 = .ok (.sipush 900, 3) := by decide +kernel
theorem dX10_init_12 : decode cX10_init 12 = .ok (.invokespecial 11, 3) := by decide +kernel
theorem dX10_init_15 : decode cX10_init 15 = .ok (.putfield 14, 3) := by decide +kernel
theorem dX10_init_18 : decode cX10_init 18 = .ok (.aload_n 0, 1) := by decide +kernel
theorem dX10_init_19 : decode cX10_init 19 = .ok (.new 9, 3) := by decide +kernel
theorem dX10_init_22 : decode cX10_init 22 = .ok (.dup, 1) := by decide +kernel
theorem dX10_init_23 : decode cX10_init 23 = .ok (.sipush 400, 3) := by decide +kernel
theorem dX10_init_26 : decode cX10_init 26 = .ok (.invokespecial 11, 3) := by decide +kernel
theorem dX10_init_29 : decode cX10_init 29 = .ok (.putfield 18, 3) := by decide +kernel
theorem dX10_init_32 : decode cX10_init 32 = .ok (.aload_n 0, 1) := by decide +kernel
theorem dX10_init_33 : decode cX10_init 33 = .ok (.new 21, 3) := by decide +kernel
theorem dX10_init_36 : decode cX10_init 36 = .ok (.dup, 1) := by decide +kernel
theorem dX10_init_37 : decode cX10_init 37 = .ok (.invokespecial 23, 3) := by decide +kernel
theorem dX10_init_40 : decode cX10_init 40 = .ok (.putfield 24, 3) := by decide +kernel
theorem dX10_init_43 : decode cX10_init 43 = .ok (.aload_n 0, 1) := by decide +kernel
theorem dX10_init_44 : decode cX10_init 44 = .ok (.new 28, 3) := by decide +kernel
theorem dX10_init_47 : decode cX10_init 47 = .ok (.dup, 1) := by decide +kernel
theorem dX10_init_48 : decode cX10_init 48 = .ok (.invokespecial 30, 3) := by decide +kernel
theorem dX10_init_51 : decode cX10_init 51 = .ok (.putfield 31, 3) := by decide +kernel
theorem dX10_init_54 : decode cX10_init 54 = .ok (.aload_n 0, 1) := by decide +kernel
theorem dX10_init_55 : decode cX10_init 55 = .ok (.new 28, 3) := by decide +kernel
theorem dX10_init_58 : decode cX10_init 58 = .ok (.dup, 1) := by decide +kernel
theorem dX10_init_59 : decode cX10_init 59 = .ok (.invokespecial 30, 3) := by decide +kernel
theorem dX10_init_62 : decode cX10_init 62 = .ok (.putfield 35, 3) := by decide +kernel
theorem dX10_init_65 : decode cX10_init 65 = .ok (.aload_n 0, 1) := by decide +kernel
theorem dX10_init_66 : decode cX10_init 66 = .ok (.new 28, 3) := by decide +kernel
theorem dX10_init_69 : decode cX10_init 69 = .ok (.dup, 1) := by decide +kernel
theorem dX10_init_70 : decode cX10_init 70 = .ok (.invokespecial 30, 3) := by decide +kernel
theorem dX10_init_73 : decode cX10_init 73 = .ok (.putfield 38, 3) := by decide +kernel
theorem dX10_init_76 : decode cX10_init 76 = .ok (.aload_n 0, 1) := by decide +kernel
theorem dX10_init_77 : decode cX10_init 77 = .ok (.new 41, 3) := by decide +kernel
theorem dX10_init_80 : decode cX10_init 80 = .ok (.dup, 1) := by decide +kernel
theorem dX10_init_81 : decode cX10_init 81 = .ok (.invokespecial 43, 3) := by decide +kernel
theorem dX10_init_84 : decode cX10_init 84 = .ok (.putfield 44, 3) := by decide +kernel
theorem dX10_init_87 : decode cX10_init 87 = .ok (.aload_n 0, 1) := by decide +kernel
theorem dX10_init_88 : decode cX10_init 88 = .ok (.new 48, 3) := by decide +kernel
theorem dX10_init_91 : decode cX10_init 91 = .ok (.dup, 1) := by decide +kernel
theorem dX10_init_92 : decode cX10_init 92 = .ok (.aload_n 0, 1) := by decide +kernel
theorem dX10_init_93 : decode cX10_init 93 = .ok (.getfield 14, 3) := by decide +kernel
theorem dX10_init_96 : decode cX10_init 96 = .ok (.invokespecial 50, 3) := by decide +kernel
theorem dX10_init_99 : decode cX10_init 99 = .ok (.putfield 53, 3) := by decide +kernel
theorem dX10_init_102 : decode cX10_init 102 = .ok (.aload_n 0, 1) := by decide +kernel
theorem dX10_init_103 : decode cX10_init 103 = .ok (.new 57, 3) := by decide +kernel
theorem dX10_init_106 : decode cX10_init 106 = .ok (.dup, 1) := by decide +kernel
theorem dX10_init_107 : decode cX10_init 107 = .ok (.aload_n 0, 1) := by decide +kernel
theorem dX10_init_108 : decode cX10_init 108 = .ok (.getfield 24, 3) := by decide +kernel
theorem dX10_init_111 : decode cX10_init 111 = .ok (.aload_n 0, 1) := by decide +kernel
theorem dX10_init_112 : decode cX10_init 112 = .ok (.getfield 31, 3) := by decide +kernel
theorem dX10_init_115 : decode cX10_init 115 = .ok (.invokespecial 59, 3) := by decide +kernel
theorem dX10_init_118 : decode cX10_init 118 = .ok (.putfield 62, 3) := by decide +kernel
theorem dX10_init_121 : decode cX10_init 121 = .ok (.aload_n 0, 1) := by decide +kernel
theorem dX10_init_122 : decode cX10_init 122 = .ok (.new 66, 3) := by decide +kernel
theorem dX10_init_125 : decode cX10_init 125 = .ok (.dup, 1) := by decide +kernel
theorem dX10_init_126 : decode cX10_init 126 = .ok (.aload_n 0, 1) := by decide +kernel
theorem dX10_init_127 : decode cX10_init 127 = .ok (.getfield 62, 3) := by decide +kernel
theorem dX10_init_130 : decode cX10_init 130 = .ok (.invokespecial 68, 3) := by decide +kernel
theorem dX10_init_133 : decode cX10_init 133 = .ok (.putfield 71, 3) := by decide +kernel
theorem dX10_init_136 : decode cX10_init 136 = .ok (.aload_n 0, 1) := by decide +kernel
theorem dX10_init_137 : decode cX10_init 137 = .ok (.new 75, 3) := by decide +kernel
theorem dX10_init_140 : decode cX10_init 140 = .ok (.dup, 1) := by decide +kernel
theorem dX10_init_141 : decode cX10_init 141 = .ok (.aload_n 0, 1) := by decide +kernel
theorem dX10_init_142 : decode cX10_init 142 = .ok (.getfield 62, 3) := by decide +kernel
theorem dX10_init_145 : decode cX10_init 145 = .ok (.aload_n 0, 1) := by decide +kernel
theorem dX10_init_146 : decode cX10_init 146 = .ok (.getfield 71, 3) := by decide +kernel
theorem dX10_init_149 : decode cX10_init 149 = .ok (.invokespecial 77, 3) := by decide +kernel
theorem dX10_init_152 : decode cX10_init 152 = .ok (.putfield 80, 3) := by decide +kernel
theorem dX10_init_155 : decode cX10_init 155 = .ok (.aload_n 0, 1) := by decide +kernel
theorem dX10_init_156 : decode cX10_init 156 = .ok (.new 84, 3) := by decide +kernel
theorem dX10_init_159 : decode cX10_init 159 = .ok (.dup, 1) := by decide +kernel
theorem dX10_init_160 : decode cX10_init 160 = .ok (.aload_n 0, 1) := by decide +kernel
theorem dX10_init_161 : decode cX10_init 161 = .ok (.getfield 62, 3) := by decide +kernel
theorem dX10_init_164 : decode cX10_init 164 = .ok (.invokespecial 86, 3) := by decide +kernel
theorem dX10_init_167 : decode cX10_init 167 = .ok (.putfield 87, 3) := by decide +kernel
theorem dX10_init_170 : decode cX10_init 170 = .ok (.aload_n 0, 1) := by decide +kernel
theorem dX10_init_171 : decode cX10_init 171 = .ok (.iconst 0, 1) := by decide +kernel
theorem dX10_init_172 : decode cX10_init 172 = .ok (.putfield 91, 3) := by decide +kernel
theorem dX10_init_175 : decode cX10_init 175 = .ok (.aload_n 0, 1) := by decide +kernel
theorem dX10_init_176 : decode cX10_init 176 = .ok (.iconst 0, 1) := by decide +kernel
theorem dX10_init_177 : decode cX10_init 177 = .ok (.putfield 95, 3) := by decide +kernel
theorem dX10_init_180 : decode cX10_init 180 = .ok (.aload_n 0, 1) := by decide +kernel
theorem dX10_init_181 : decode cX10_init 181 = .ok (.iconst (-1), 1) := by decide +kernel
theorem dX10_init_182 : decode cX10_init 182 = .ok (.putfield 99, 3) := by decide +kernel
theorem dX10_init_185 : decode cX10_init 185 = .ok (.return_, 1) := by decide +kernel
def rmX10_init : Room := rmk 24 199 7735 685
theorem nX10_init : nameOk yX10_init 0 = true := by decide +kernel
def bX10_init_0 (J : JT) : List Value → Sem
  | [.ref x0] =>
    nO 7 fun r1 =>
    cV SX7_init [.ref r1, .int 900] <|
    pR 10 0 x0 (some r1) <|
    nO 7 fun r2 =>
    cV SX7_init [.ref r2, .int 400] <|
    pR 10 1 x0 (some r2) <|
    nO 9 fun r3 =>
    cV SX9_init [.ref r3] <|
    pR 10 2 x0 (some r3) <|
    nO 6 fun r4 =>
    cV SX6_init [.ref r4] <|
    pR 10 3 x0 (some r4) <|
    nO 6 fun r5 =>
    cV SX6_init [.ref r5] <|
    pR 10 4 x0 (some r5) <|
    nO 6 fun r6 =>
    cV SX6_init [.ref r6] <|
    pR 10 5 x0 (some r6) <|
    nO 3 fun r7 =>
    cV SX3_init [.ref r7] <|
    pR 10 6 x0 (some r7) <|
    nO 5 fun r8 =>
    gR 10 0 x0 fun r9 =>
    cV SX5_init [.ref r8, .ref r9] <|
    pR 10 7 x0 (some r8) <|
    nO 0 fun r10 =>
    gR 10 2 x0 fun r11 =>
    gR 10 3 x0 fun r12 =>
    cV SX0_init [.ref r10, .ref r11, .ref r12] <|
    pR 10 8 x0 (some r10) <|
    nO 1 fun r13 =>
    gR 10 8 x0 fun r14 =>
    cV SX1_init [.ref r13, .ref r14] <|
    pR 10 9 x0 (some r13) <|
    nO 4 fun r15 =>
    gR 10 8 x0 fun r16 =>
    gR 10 9 x0 fun r17 =>
    cV SX4_init [.ref r15, .ref r16, .ref r17] <|
    pR 10 10 x0 (some r15) <|
    nO 2 fun r18 =>
    gR 10 8 x0 fun r19 =>
    cV SX2_init [.ref r18, .ref r19] <|
    pR 10 11 x0 (some r18) <|
    pZ 10 12 x0 0 <|
    pI 10 13 x0 0 <|
    pI 10 14 x0 (-1) <|
    rV
  | _ => no
def bX10_init (J : JT) : JT := fun L a => match L with
  | 0 => bX10_init_0 J a
  | _ => no
def SX10_init : ST := mk 1 bX10_init
def lX10_init (L : Nat) (a : List Value) : Nat × Nat × Nat × List (Nat × Value) × List Value := match L with
  | 0 => (0, 0, 0, lv_args 0 a, [])
  | _ => (0, 0, 0, [], [])
theorem pX10_init_0 {Γ : CT} (hC : Ctx Γ "SpiritWall" cX10_init 1 none rmX10_init) (hnt : NT Γ) (hnm : (kMe Γ).name = "<init>") (J : JT) (hJ : ∀ L a, Cor Γ 1 (lX10_init L a).1 (lX10_init L a).2.1 (lX10_init L a).2.2.1 (lX10_init L a).2.2.2.1 (lX10_init L a).2.2.2.2 (J L a)) (a : List Value) : Cor Γ 1 0 0 0 (lv_args 0 a) [] (bX10_init_0 J a) := by
  unfold bX10_init_0
  split
  · rename_i x0
    refine c_sub [0] rfl (loc' := [(0, .ref x0)]) ?_
    refine q_aload_n hC 0 dX10_init_0 rfl rfl ?_
    refine q_oinit hC w_123 w_1 w_oinit ⟨(Nat.le_of_ble_eq_true rfl), (Nat.le_of_ble_eq_true rfl)⟩ dX10_init_1 ?_
    refine q_aload_n hC 0 dX10_init_4 rfl rfl ?_
    refine q_new hC (by decide) w_183 w_184 w_127 ⟨(Nat.le_of_ble_eq_true rfl), (Nat.le_of_ble_eq_true rfl)⟩ dX10_init_5 (fun r1 => ?_)
    refine q_dup hC dX10_init_8 ?_
    refine q_sipush hC (v := 900) dX10_init_9 rfl ?_
    refine q_cIV hC hnt (stk := [.ref r1, .ref x0]) (as := [.int 900]) sX7_init rfl nX7_init rfl w_124 w_126 w_127 w_125 (Nat.le_of_ble_eq_true rfl) dX10_init_12 rfl ?_
    refine q_putR hC (by decide) (by decide) rfl (Or.inr ⟨hnm, rfl, rfl⟩) w_128 dX10_init_15 ?_
    refine q_aload_n hC 0 dX10_init_18 rfl rfl ?_
    refine q_new hC (by decide) w_183 w_184 w_127 ⟨(Nat.le_of_ble_eq_true rfl), (Nat.le_of_ble_eq_true rfl)⟩ dX10_init_19 (fun r2 => ?_)
    refine q_dup hC dX10_init_22 ?_
    refine q_sipush hC (v := 400) dX10_init_23 rfl ?_
    refine q_cIV hC hnt (stk := [.ref r2, .ref x0]) (as := [.int 400]) sX7_init rfl nX7_init rfl w_124 w_126 w_127 w_125 (Nat.le_of_ble_eq_true rfl) dX10_init_26 rfl ?_
    refine q_putR hC (by decide) (by decide) rfl (Or.inr ⟨hnm, rfl, rfl⟩) w_129 dX10_init_29 ?_
    refine q_aload_n hC 0 dX10_init_32 rfl rfl ?_
    refine q_new hC (by decide) w_182 w_82 w_65 ⟨(Nat.le_of_ble_eq_true rfl), (Nat.le_of_ble_eq_true rfl)⟩ dX10_init_33 (fun r3 => ?_)
    refine q_dup hC dX10_init_36 ?_
    refine q_cINV hC hnt (stk := [.ref r3, .ref x0]) (as := []) sX9_init rfl nX9_init rfl w_130 w_64 w_65 w_63 (Nat.le_of_ble_eq_true rfl) dX10_init_37 rfl ?_
    refine q_putR hC (by decide) (by decide) rfl (Or.inr ⟨hnm, rfl, rfl⟩) w_131 dX10_init_40 ?_
    refine q_aload_n hC 0 dX10_init_43 rfl rfl ?_
    refine q_new hC (by decide) w_181 w_37 w_35 ⟨(Nat.le_of_ble_eq_true rfl), (Nat.le_of_ble_eq_true rfl)⟩ dX10_init_44 (fun r4 => ?_)
    refine q_dup hC dX10_init_47 ?_
    refine q_cIV hC hnt (stk := [.ref r4, .ref x0]) (as := []) sX6_init rfl nX6_init rfl w_132 w_34 w_35 w_33 (Nat.le_of_ble_eq_true rfl) dX10_init_48 rfl ?_
    refine q_putR hC (by decide) (by decide) rfl (Or.inr ⟨hnm, rfl, rfl⟩) w_133 dX10_init_51 ?_
    refine q_aload_n hC 0 dX10_init_54 rfl rfl ?_
    refine q_new hC (by decide) w_181 w_37 w_35 ⟨(Nat.le_of_ble_eq_true rfl), (Nat.le_of_ble_eq_true rfl)⟩ dX10_init_55 (fun r5 => ?_)
    refine q_dup hC dX10_init_58 ?_
    refine q_cIV hC hnt (stk := [.ref r5, .ref x0]) (as := []) sX6_init rfl nX6_init rfl w_132 w_34 w_35 w_33 (Nat.le_of_ble_eq_true rfl) dX10_init_59 rfl ?_
    refine q_putR hC (by decide) (by decide) rfl (Or.inr ⟨hnm, rfl, rfl⟩) w_134 dX10_init_62 ?_
    refine q_aload_n hC 0 dX10_init_65 rfl rfl ?_
    refine q_new hC (by decide) w_181 w_37 w_35 ⟨(Nat.le_of_ble_eq_true rfl), (Nat.le_of_ble_eq_true rfl)⟩ dX10_init_66 (fun r6 => ?_)
    refine q_dup hC dX10_init_69 ?_
    refine q_cIV hC hnt (stk := [.ref r6, .ref x0]) (as := []) sX6_init rfl nX6_init rfl w_132 w_34 w_35 w_33 (Nat.le_of_ble_eq_true rfl) dX10_init_70 rfl ?_
    refine q_putR hC (by decide) (by decide) rfl (Or.inr ⟨hnm, rfl, rfl⟩) w_135 dX10_init_73 ?_
    refine q_aload_n hC 0 dX10_init_76 rfl rfl ?_
    refine q_new hC (by decide) w_179 w_180 w_139 ⟨(Nat.le_of_ble_eq_true rfl), (Nat.le_of_ble_eq_true rfl)⟩ dX10_init_77 (fun r7 => ?_)
    refine q_dup hC dX10_init_80 ?_
    refine q_cIV hC hnt (stk := [.ref r7, .ref x0]) (as := []) sX3_init rfl nX3_init rfl w_136 w_138 w_139 w_137 (Nat.le_of_ble_eq_true rfl) dX10_init_81 rfl ?_
    refine q_putR hC (by decide) (by decide) rfl (Or.inr ⟨hnm, rfl, rfl⟩) w_140 dX10_init_84 ?_
    refine q_aload_n hC 0 dX10_init_87 rfl rfl ?_
    refine q_new hC (by decide) w_177 w_178 w_144 ⟨(Nat.le_of_ble_eq_true rfl), (Nat.le_of_ble_eq_true rfl)⟩ dX10_init_88 (fun r8 => ?_)
    refine q_dup hC dX10_init_91 ?_
    refine q_aload_n hC 0 dX10_init_92 rfl rfl ?_
    refine q_getR hC (by decide) (by decide) rfl w_128 dX10_init_93 (fun r9 => ?_)
    refine q_cIV hC hnt (stk := [.ref r8, .ref x0]) (as := [.ref r9]) sX5_init rfl nX5_init rfl w_141 w_143 w_144 w_142 (Nat.le_of_ble_eq_true rfl) dX10_init_96 rfl ?_
    refine q_putR hC (by decide) (by decide) rfl (Or.inr ⟨hnm, rfl, rfl⟩) w_145 dX10_init_99 ?_
    refine q_aload_n hC 0 dX10_init_102 rfl rfl ?_
    refine q_new hC (by decide) w_175 w_176 w_149 ⟨(Nat.le_of_ble_eq_true rfl), (Nat.le_of_ble_eq_true rfl)⟩ dX10_init_103 (fun r10 => ?_)
    refine q_dup hC dX10_init_106 ?_
    refine q_aload_n hC 0 dX10_init_107 rfl rfl ?_
    refine q_getR hC (by decide) (by decide) rfl w_131 dX10_init_108 (fun r11 => ?_)
    refine q_aload_n hC 0 dX10_init_111 rfl rfl ?_
    refine q_getR hC (by decide) (by decide) rfl w_133 dX10_init_112 (fun r12 => ?_)
    refine q_cIV hC hnt (stk := [.ref r10, .ref x0]) (as := [.ref r11, .ref r12]) sX0_init rfl nX0_init rfl w_146 w_148 w_149 w_147 (Nat.le_of_ble_eq_true rfl) dX10_init_115 rfl ?_
    refine q_putR hC (by decide) (by decide) rfl (Or.inr ⟨hnm, rfl, rfl⟩) w_150 dX10_init_118 ?_
    refine q_aload_n hC 0 dX10_init_121 rfl rfl ?_
    refine q_new hC (by decide) w_173 w_174 w_154 ⟨(Nat.le_of_ble_eq_true rfl), (Nat.le_of_ble_eq_true rfl)⟩ dX10_init_122 (fun r13 => ?_)
    refine q_dup hC dX10_init_125 ?_
    refine q_aload_n hC 0 dX10_init_126 rfl rfl ?_
    refine q_getR hC (by decide) (by decide) rfl w_150 dX10_init_127 (fun r14 => ?_)
    refine q_cIV hC hnt (stk := [.ref r13, .ref x0]) (as := [.ref r14]) sX1_init rfl nX1_init rfl w_151 w_153 w_154 w_152 (Nat.le_of_ble_eq_true rfl) dX10_init_130 rfl ?_
    refine q_putR hC (by decide) (by decide) rfl (Or.inr ⟨hnm, rfl, rfl⟩) w_155 dX10_init_133 ?_
    refine q_aload_n hC 0 dX10_init_136 rfl rfl ?_
    refine q_new hC (by decide) w_171 w_172 w_159 ⟨(Nat.le_of_ble_eq_true rfl), (Nat.le_of_ble_eq_true rfl)⟩ dX10_init_137 (fun r15 => ?_)
    refine q_dup hC dX10_init_140 ?_
    refine q_aload_n hC 0 dX10_init_141 rfl rfl ?_
    refine q_getR hC (by decide) (by decide) rfl w_150 dX10_init_142 (fun r16 => ?_)
    refine q_aload_n hC 0 dX10_init_145 rfl rfl ?_
    refine q_getR hC (by decide) (by decide) rfl w_155 dX10_init_146 (fun r17 => ?_)
    refine q_cIV hC hnt (stk := [.ref r15, .ref x0]) (as := [.ref r16, .ref r17]) sX4_init rfl nX4_init rfl w_156 w_158 w_159 w_157 (Nat.le_of_ble_eq_true rfl) dX10_init_149 rfl ?_
    refine q_putR hC (by decide) (by decide) rfl (Or.inr ⟨hnm, rfl, rfl⟩) w_160 dX10_init_152 ?_
    refine q_aload_n hC 0 dX10_init_155 rfl rfl ?_
    refine q_new hC (by decide) w_169 w_170 w_164 ⟨(Nat.le_of_ble_eq_true rfl), (Nat.le_of_ble_eq_true rfl)⟩ dX10_init_156 (fun r18 => ?_)
    refine q_dup hC dX10_init_159 ?_
    refine q_aload_n hC 0 dX10_init_160 rfl rfl ?_
    refine q_getR hC (by decide) (by decide) rfl w_150 dX10_init_161 (fun r19 => ?_)
    refine q_cIV hC hnt (stk := [.ref r18, .ref x0]) (as := [.ref r19]) sX2_init rfl nX2_init rfl w_161 w_163 w_164 w_162 (Nat.le_of_ble_eq_true rfl) dX10_init_164 rfl ?_
    refine q_putR hC (by decide) (by decide) rfl (Or.inr ⟨hnm, rfl, rfl⟩) w_165 dX10_init_167 ?_
    refine q_aload_n hC 0 dX10_init_170 rfl rfl ?_
    refine q_iconst hC dX10_init_171 rfl ?_
    refine q_putZ hC (by decide) (by decide) rfl rfl w_166 dX10_init_172 ?_
    refine q_aload_n hC 0 dX10_init_175 rfl rfl ?_
    refine q_iconst hC dX10_init_176 rfl ?_
    refine q_putI hC (by decide) (by decide) rfl rfl w_167 dX10_init_177 ?_
    refine q_aload_n hC 0 dX10_init_180 rfl rfl ?_
    refine q_iconst hC dX10_init_181 rfl ?_
    refine q_putI hC (by decide) (by decide) rfl rfl w_168 dX10_init_182 ?_
    exact q_vret hC dX10_init_185 (Nat.le_of_ble_eq_true rfl) (Nat.le_of_ble_eq_true rfl)
  · exact c_no
theorem sX10_init : Snd yX10_init (.code yX10_init cX10_init 1 none) rmX10_init SX10_init := by
  refine Snd.of lX10_init (by decide +kernel) (fun _ => rfl) ?_
  intro Γ hC hnt hnm J hJ L a
  match L with
  | 0 => exact pX10_init_0 hC hnt hnm J hJ a
  | L + 1 => exact c_no
/-! SpiritWall.put([III)V -/
theorem dX10_put_0 : decode cX10_put 0 = .ok (.iload_n 1, 1) := by decide +kernel
theorem dX10_put_1 : decode cX10_put 1 = .ok (.ifCond .lt 13, 3) := by decide +kernel
theorem dX10_put_4 : decode cX10_put 4 = .ok (.iload_n 1, 1) := by decide +kernel
theorem dX10_put_5 : decode cX10_put 5 = .ok (.aload_n 0, 1) := by decide +kernel
theorem dX10_put_6 : decode cX10_put 6 = .ok (.arraylength, 1) := by decide +kernel
theorem dX10_put_7 : decode cX10_put 7 = .ok (.if_icmp .ge 7, 3) := by decide +kernel
theorem dX10_put_10 : decode cX10_put 10 = .ok (.aload_n 0, 1) := by decide +kernel
theorem dX10_put_11 : decode cX10_put 11 = .ok (.iload_n 1, 1) := by decide +kernel
theorem dX10_put_12 : decode cX10_put 12 = .ok (.iload_n 2, 1) := by decide +kernel
theorem dX10_put_13 : decode cX10_put 13 = .ok (.iastore, 1) := by decide +kernel
theorem dX10_put_14 : decode cX10_put 14 = .ok (.return_, 1) := by decide +kernel
def rmX10_put : Room := rmk 6 0 0 150
theorem nX10_put : nameOk yX10_put 3 = true := by decide +kernel
def bX10_put_0 (J : JT) : List Value → Sem
  | [.ref x0, .int x1, .int x2] =>
    br (x1 < 0)
    (rV)
    (aL x0 fun v1 =>
    br (v1 ≤ x1)
    (rV)
    (sA x0 x1 x2 <|
    rV))
  | _ => no
def bX10_put (J : JT) : JT := fun L a => match L with
  | 0 => bX10_put_0 J a
  | _ => no
def SX10_put : ST := mk 3 bX10_put
def lX10_put (L : Nat) (a : List Value) : Nat × Nat × Nat × List (Nat × Value) × List Value := match L with
  | 0 => (0, 0, 0, lv_args 0 a, [])
  | _ => (0, 0, 0, [], [])
theorem pX10_put_0 {Γ : CT} (hC : Ctx Γ "SpiritWall" cX10_put 3 none rmX10_put) (hnt : NT Γ) (J : JT) (hJ : ∀ L a, Cor Γ 3 (lX10_put L a).1 (lX10_put L a).2.1 (lX10_put L a).2.2.1 (lX10_put L a).2.2.2.1 (lX10_put L a).2.2.2.2 (J L a)) (a : List Value) : Cor Γ 3 0 0 0 (lv_args 0 a) [] (bX10_put_0 J a) := by
  unfold bX10_put_0
  split
  · rename_i x0 x1 x2
    refine c_sub [0, 1, 2] rfl (loc' := [(0, .ref x0), (1, .int x1), (2, .int x2)]) ?_
    refine q_iload_n hC 1 dX10_put_0 rfl rfl ?_
    refine q_if_lt hC 14 dX10_put_1 rfl ?_ ?_
    · exact q_vret hC dX10_put_14 (Nat.le_of_ble_eq_true rfl) (Nat.le_of_ble_eq_true rfl)
    · refine q_iload_n hC 1 dX10_put_4 rfl rfl ?_
      refine q_aload_n hC 0 dX10_put_5 rfl rfl ?_
      refine q_alen hC dX10_put_6 (fun v1 => ?_)
      refine q_ic_ge hC 14 dX10_put_7 rfl ?_ ?_
      · exact q_vret hC dX10_put_14 (Nat.le_of_ble_eq_true rfl) (Nat.le_of_ble_eq_true rfl)
      · refine q_aload_n hC 0 dX10_put_10 rfl rfl ?_
        refine q_iload_n hC 1 dX10_put_11 rfl rfl ?_
        refine q_iload_n hC 2 dX10_put_12 rfl rfl ?_
        refine q_iast hC dX10_put_13 ?_
        exact q_vret hC dX10_put_14 (Nat.le_of_ble_eq_true rfl) (Nat.le_of_ble_eq_true rfl)
  · exact c_no
theorem sX10_put : Snd yX10_put (.code yX10_put cX10_put 3 none) rmX10_put SX10_put := by
  refine Snd.of lX10_put (by decide +kernel) (fun _ => rfl) ?_
  intro Γ hC hnt hnm J hJ L a
  match L with
  | 0 => exact pX10_put_0 hC hnt J hJ a
  | L + 1 => exact c_no
/-! SpiritWall$Text.add(I)V -/
theorem dX7_add_0 : decode cX7_add 0 = .ok (.aload_n 0, 1) := by decide +kernel
theorem dX7_add_1 : decode cX7_add 1 = .ok (.getfield 9, 3) := by decide +kernel
theorem dX7_add_4 : decode cX7_add 4 = .ok (.aload_n 0, 1) := by decide +kernel
theorem dX7_add_5 : decode cX7_add 5 = .ok (.getfield 15, 3) := by decide +kernel
theorem dX7_add_8 : decode cX7_add 8 = .ok (.arraylength, 1) := by decide +kernel
theorem dX7_add_9 : decode cX7_add 9 = .ok (.if_icmp .lt 4, 3) := by decide +kernel
theorem dX7_add_12 : decode cX7_add 12 = .ok (.return_, 1) := by decide +kernel
theorem dX7_add_13 : decode cX7_add 13 = .ok (.aload_n 0, 1) := by decide +kernel
theorem dX7_add_14 : decode cX7_add 14 = .ok (.getfield 15, 3) := by decide +kernel
theorem dX7_add_17 : decode cX7_add 17 = .ok (.aload_n 0, 1) := by decide +kernel
theorem dX7_add_18 : decode cX7_add 18 = .ok (.getfield 9, 3) := by decide +kernel
theorem dX7_add_21 : decode cX7_add 21 = .ok (.iload_n 1, 1) := by decide +kernel
theorem dX7_add_22 : decode cX7_add 22 = .ok (.sipush 255, 3) := by decide +kernel
theorem dX7_add_25 : decode cX7_add 25 = .ok (.iand, 1) := by decide +kernel
theorem dX7_add_26 : decode cX7_add 26 = .ok (.invokestatic 23, 3) := by decide +kernel
theorem dX7_add_29 : decode cX7_add 29 = .ok (.aload_n 0, 1) := by decide +kernel
theorem dX7_add_30 : decode cX7_add 30 = .ok (.dup, 1) := by decide +kernel
theorem dX7_add_31 : decode cX7_add 31 = .ok (.getfield 9, 3) := by decide +kernel
theorem dX7_add_34 : decode cX7_add 34 = .ok (.iconst 1, 1) := by decide +kernel
theorem dX7_add_35 : decode cX7_add 35 = .ok (.iadd, 1) := by decide +kernel
theorem dX7_add_36 : decode cX7_add 36 = .ok (.putfield 9, 3) := by decide +kernel
theorem dX7_add_39 : decode cX7_add 39 = .ok (.return_, 1) := by decide +kernel
def rmX7_add : Room := rmk 7 0 0 172
theorem nX7_add : nameOk yX7_add 1 = true := by decide +kernel
def bX7_add_0 (J : JT) : List Value → Sem
  | [.ref x0, .int x1] =>
    gI 7 1 x0 fun v1 =>
    gR 7 0 x0 fun r2 =>
    aL r2 fun v3 =>
    br (v1 < v3)
    (gR 7 0 x0 fun r4 =>
    gI 7 1 x0 fun v5 =>
    cV SX10_put [.ref r4, .int v5, .int (x1 &&& 255)] <|
    gI 7 1 x0 fun v6 =>
    pI 7 1 x0 (v6 + 1) <|
    rV)
    (rV)
  | _ => no
def bX7_add (J : JT) : JT := fun L a => match L with
  | 0 => bX7_add_0 J a
  | _ => no
def SX7_add : ST := mk 2 bX7_add
def lX7_add (L : Nat) (a : List Value) : Nat × Nat × Nat × List (Nat × Value) × List Value := match L with
  | 0 => (0, 0, 0, lv_args 0 a, [])
  | _ => (0, 0, 0, [], [])
theorem pX7_add_0 {Γ : CT} (hC : Ctx Γ "SpiritWall$Text" cX7_add 2 none rmX7_add) (hnt : NT Γ) (J : JT) (hJ : ∀ L a, Cor Γ 2 (lX7_add L a).1 (lX7_add L a).2.1 (lX7_add L a).2.2.1 (lX7_add L a).2.2.2.1 (lX7_add L a).2.2.2.2 (J L a)) (a : List Value) : Cor Γ 2 0 0 0 (lv_args 0 a) [] (bX7_add_0 J a) := by
  unfold bX7_add_0
  split
  · rename_i x0 x1
    refine c_sub [0, 1] rfl (loc' := [(0, .ref x0), (1, .int x1)]) ?_
    refine q_aload_n hC 0 dX7_add_0 rfl rfl ?_
    refine q_getI hC (by decide) (by decide) rfl w_2 dX7_add_1 (fun v1 => ?_)
    refine q_aload_n hC 0 dX7_add_4 rfl rfl ?_
    refine q_getR hC (by decide) (by decide) rfl w_3 dX7_add_5 (fun r2 => ?_)
    refine q_alen hC dX7_add_8 (fun v3 => ?_)
    refine q_ic_lt hC 13 dX7_add_9 rfl ?_ ?_
    · refine q_aload_n hC 0 dX7_add_13 rfl rfl ?_
      refine q_getR hC (by decide) (by decide) rfl w_3 dX7_add_14 (fun r4 => ?_)
      refine q_aload_n hC 0 dX7_add_17 rfl rfl ?_
      refine q_getI hC (by decide) (by decide) rfl w_2 dX7_add_18 (fun v5 => ?_)
      refine q_iload_n hC 1 dX7_add_21 rfl rfl ?_
      refine q_sipush hC (v := 255) dX7_add_22 rfl ?_
      refine q_iand hC dX7_add_25 ?_
      refine q_cNV hC hnt (stk := []) (as := [.ref r4, .int v5, .int (x1 &&& 255)]) sX10_put nX10_put rfl w_185 w_187 w_27 w_186 (Nat.le_of_ble_eq_true rfl) dX7_add_26 rfl ?_
      refine q_aload_n hC 0 dX7_add_29 rfl rfl ?_
      refine q_dup hC dX7_add_30 ?_
      refine q_getI hC (by decide) (by decide) rfl w_2 dX7_add_31 (fun v6 => ?_)
      refine q_iconst hC dX7_add_34 rfl ?_
      refine q_iadd hC dX7_add_35 ?_
      refine q_putI hC (by decide) (by decide) rfl rfl w_2 dX7_add_36 ?_
      exact q_vret hC dX7_add_39 (Nat.le_of_ble_eq_true rfl) (Nat.le_of_ble_eq_true rfl)
    · exact q_vret hC dX7_add_12 (Nat.le_of_ble_eq_true rfl) (Nat.le_of_ble_eq_true rfl)
  · exact c_no
theorem sX7_add : Snd yX7_add (.code yX7_add cX7_add 2 none) rmX7_add SX7_add := by
  refine Snd.of lX7_add (by decide +kernel) (fun _ => rfl) ?_
  intro Γ hC hnt hnm J hJ L a
  match L with
  | 0 => exact pX7_add_0 hC hnt J hJ a
  | L + 1 => exact c_no
/-! SpiritWall$Text.addFour(I)V -/
theorem dX7_addFour_0 : decode cX7_addFour 0 = .ok (.aload_n 0, 1) := by decide +kernel
theorem dX7_addFour_1 : decode cX7_addFour 1 = .ok (.iload_n 1, 1) := by decide +kernel
theorem dX7_addFour_2 : decode cX7_addFour 2 = .ok (.bipush 24, 2) := by decide +kernel
theorem dX7_addFour_4 : decode cX7_addFour 4 = .ok (.iushr, 1) := by decide +kernel
theorem dX7_addFour_5 : decode cX7_addFour 5 = .ok (.invokevirtual 27, 3) := by decide +kernel
theorem dX7_addFour_8 : decode cX7_addFour 8 = .ok (.aload_n 0, 1) := by decide +kernel
theorem dX7_addFour_9 : decode cX7_addFour 9 = .ok (.iload_n 1, 1) := by decide +kernel
theorem dX7_addFour_10 : decode cX7_addFour 10 = .ok (.bipush 16, 2) := by decide +kernel
theorem dX7_addFour_12 : decode cX7_addFour 12 = .ok (.iushr, 1) := by decide +kernel
theorem dX7_addFour_13 : decode cX7_addFour 13 = .ok (.invokevirtual 27, 3) := by decide +kernel
theorem dX7_addFour_16 : decode cX7_addFour 16 = .ok (.aload_n 0, 1) := by decide +kernel
theorem dX7_addFour_17 : decode cX7_addFour 17 = .ok (.iload_n 1, 1) := by decide +kernel
theorem dX7_addFour_18 : decode cX7_addFour 18 = .ok (.bipush 8, 2) := by decide +kernel
theorem dX7_addFour_20 : decode cX7_addFour 20 = .ok (.iushr, 1) := by decide +kernel
theorem dX7_addFour_21 : decode cX7_addFour 21 = .ok (.invokevirtual 27, 3) := by decide +kernel
theorem dX7_addFour_24 : decode cX7_addFour 24 = .ok (.aload_n 0, 1) := by decide +kernel
theorem dX7_addFour_25 : decode cX7_addFour 25 = .ok (.iload_n 1, 1) := by decide +kernel
theorem dX7_addFour_26 : decode cX7_addFour 26 = .ok (.invokevirtual 27, 3) := by decide +kernel
theorem dX7_addFour_29 : decode cX7_addFour 29 = .ok (.return_, 1) := by decide +kernel
def rmX7_addFour : Room := rmk 8 0 0 193
theorem nX7_addFour : nameOk yX7_addFour 1 = true := by decide +kernel
def bX7_addFour_0 (J : JT) : List Value → Sem
  | [.ref x0, .int x1] =>
    ob 7 x0 (cV SX7_add [.ref x0, .int (((Int32.toUInt32 (x1)) >>> ((Int32.toUInt32 (24)) &&& Int32.toUInt32 31)).toInt32)] <|
    ob 7 x0 (cV SX7_add [.ref x0, .int (((Int32.toUInt32 (x1)) >>> ((Int32.toUInt32 (16)) &&& Int32.toUInt32 31)).toInt32)] <|
    ob 7 x0 (cV SX7_add [.ref x0, .int (((Int32.toUInt32 (x1)) >>> ((Int32.toUInt32 (8)) &&& Int32.toUInt32 31)).toInt32)] <|
    ob 7 x0 (cV SX7_add [.ref x0, .int x1] <|
    rV))))
  | _ => no
def bX7_addFour (J : JT) : JT := fun L a => match L with
  | 0 => bX7_addFour_0 J a
  | _ => no
def SX7_addFour : ST := mk 2 bX7_addFour
def lX7_addFour (L : Nat) (a : List Value) : Nat × Nat × Nat × List (Nat × Value) × List Value := match L with
  | 0 => (0, 0, 0, lv_args 0 a, [])
  | _ => (0, 0, 0, [], [])
theorem pX7_addFour_0 {Γ : CT} (hC : Ctx Γ "SpiritWall$Text" cX7_addFour 2 none rmX7_addFour) (hnt : NT Γ) (J : JT) (hJ : ∀ L a, Cor Γ 2 (lX7_addFour L a).1 (lX7_addFour L a).2.1 (lX7_addFour L a).2.2.1 (lX7_addFour L a).2.2.2.1 (lX7_addFour L a).2.2.2.2 (J L a)) (a : List Value) : Cor Γ 2 0 0 0 (lv_args 0 a) [] (bX7_addFour_0 J a) := by
  unfold bX7_addFour_0
  split
  · rename_i x0 x1
    refine c_sub [0, 1] rfl (loc' := [(0, .ref x0), (1, .int x1)]) ?_
    refine q_aload_n hC 0 dX7_addFour_0 rfl rfl ?_
    refine q_iload_n hC 1 dX7_addFour_1 rfl rfl ?_
    refine q_bipush hC (v := 24) dX7_addFour_2 rfl ?_
    refine q_iushr hC dX7_addFour_4 ?_
    refine q_cVV hC hnt (stk := []) (as := [.int (((Int32.toUInt32 (x1)) >>> ((Int32.toUInt32 (24)) &&& Int32.toUInt32 31)).toInt32)]) sX7_add (ci := 7) (by decide) rfl nX7_add rfl w_188 w_190 w_191 w_127 w_189 (Nat.le_of_ble_eq_true rfl) dX7_addFour_5 rfl ?_
    refine q_aload_n hC 0 dX7_addFour_8 rfl rfl ?_
    refine q_iload_n hC 1 dX7_addFour_9 rfl rfl ?_
    refine q_bipush hC (v := 16) dX7_addFour_10 rfl ?_
    refine q_iushr hC dX7_addFour_12 ?_
    refine q_cVV hC hnt (stk := []) (as := [.int (((Int32.toUInt32 (x1)) >>> ((Int32.toUInt32 (16)) &&& Int32.toUInt32 31)).toInt32)]) sX7_add (ci := 7) (by decide) rfl nX7_add rfl w_188 w_190 w_191 w_127 w_189 (Nat.le_of_ble_eq_true rfl) dX7_addFour_13 rfl ?_
    refine q_aload_n hC 0 dX7_addFour_16 rfl rfl ?_
    refine q_iload_n hC 1 dX7_addFour_17 rfl rfl ?_
    refine q_bipush hC (v := 8) dX7_addFour_18 rfl ?_
    refine q_iushr hC dX7_addFour_20 ?_
    refine q_cVV hC hnt (stk := []) (as := [.int (((Int32.toUInt32 (x1)) >>> ((Int32.toUInt32 (8)) &&& Int32.toUInt32 31)).toInt32)]) sX7_add (ci := 7) (by decide) rfl nX7_add rfl w_188 w_190 w_191 w_127 w_189 (Nat.le_of_ble_eq_true rfl) dX7_addFour_21 rfl ?_
    refine q_aload_n hC 0 dX7_addFour_24 rfl rfl ?_
    refine q_iload_n hC 1 dX7_addFour_25 rfl rfl ?_
    refine q_cVV hC hnt (stk := []) (as := [.int x1]) sX7_add (ci := 7) (by decide) rfl nX7_add rfl w_188 w_190 w_191 w_127 w_189 (Nat.le_of_ble_eq_true rfl) dX7_addFour_26 rfl ?_
    exact q_vret hC dX7_addFour_29 (Nat.le_of_ble_eq_true rfl) (Nat.le_of_ble_eq_true rfl)
  · exact c_no
theorem sX7_addFour : Snd yX7_addFour (.code yX7_addFour cX7_addFour 2 none) rmX7_addFour SX7_addFour := by
  refine Snd.of lX7_addFour (by decide +kernel) (fun _ => rfl) ?_
  intro Γ hC hnt hnm J hJ L a
  match L with
  | 0 => exact pX7_addFour_0 hC hnt J hJ a
  | L + 1 => exact c_no
/-! SpiritWall.feed(IIIII)I -/
theorem dX10_feed_0 : decode cX10_feed 0 = .ok (.aload_n 0, 1) := by decide +kernel
theorem dX10_feed_1 : decode cX10_feed 1 = .ok (.getfield 14, 3) := by decide +kernel
theorem dX10_feed_4 : decode cX10_feed 4 = .ok (.getfield 102, 3) := by decide +kernel
theorem dX10_feed_7 : decode cX10_feed 7 = .ok (.sipush 880, 3) := by decide +kernel
theorem dX10_feed_10 : decode cX10_feed 10 = .ok (.if_icmp .le 5, 3) := by decide +kernel
theorem dX10_feed_13 : decode cX10_feed 13 = .ok (.iconst (-1), 1) := by decide +kernel
theorem dX10_feed_14 : decode cX10_feed 14 = .ok (.ireturn, 1) := by decide +kernel
theorem dX10_feed_15 : decode cX10_feed 15 = .ok (.aload_n 0, 1) := by decide +kernel
theorem dX10_feed_16 : decode cX10_feed 16 = .ok (.getfield 14, 3) := by decide +kernel
theorem dX10_feed_19 : decode cX10_feed 19 = .ok (.iload_n 1, 1) := by decide +kernel
theorem dX10_feed_20 : decode cX10_feed 20 = .ok (.invokevirtual 105, 3) := by decide +kernel
theorem dX10_feed_23 : decode cX10_feed 23 = .ok (.aload_n 0, 1) := by decide +kernel
theorem dX10_feed_24 : decode cX10_feed 24 = .ok (.getfield 14, 3) := by decide +kernel
theorem dX10_feed_27 : decode cX10_feed 27 = .ok (.iload_n 2, 1) := by decide +kernel
theorem dX10_feed_28 : decode cX10_feed 28 = .ok (.invokevirtual 105, 3) := by decide +kernel
theorem dX10_feed_31 : decode cX10_feed 31 = .ok (.aload_n 0, 1) := by decide +kernel
theorem dX10_feed_32 : decode cX10_feed 32 = .ok (.getfield 14, 3) := by decide +kernel
theorem dX10_feed_35 : decode cX10_feed 35 = .ok (.iload_n 3, 1) := by decide +kernel
theorem dX10_feed_36 : decode cX10_feed 36 = .ok (.invokevirtual 105, 3) := by decide +kernel
theorem dX10_feed_39 : decode cX10_feed 39 = .ok (.aload_n 0, 1) := by decide +kernel
theorem dX10_feed_40 : decode cX10_feed 40 = .ok (.getfield 14, 3) := by decide +kernel
theorem dX10_feed_43 : decode cX10_feed 43 = .ok (.iload 4, 2) := by decide +kernel
theorem dX10_feed_45 : decode cX10_feed 45 = .ok (.invokevirtual 105, 3) := by decide +kernel
theorem dX10_feed_48 : decode cX10_feed 48 = .ok (.aload_n 0, 1) := by decide +kernel
theorem dX10_feed_49 : decode cX10_feed 49 = .ok (.getfield 14, 3) := by decide +kernel
theorem dX10_feed_52 : decode cX10_feed 52 = .ok (.iload 5, 2) := by decide +kernel
theorem dX10_feed_54 : decode cX10_feed 54 = .ok (.invokevirtual 105, 3) := by decide +kernel
theorem dX10_feed_57 : decode cX10_feed 57 = .ok (.aload_n 0, 1) := by decide +kernel
theorem dX10_feed_58 : decode cX10_feed 58 = .ok (.getfield 14, 3) := by decide +kernel
theorem dX10_feed_61 : decode cX10_feed 61 = .ok (.getfield 102, 3) := by decide +kernel
theorem dX10_feed_64 : decode cX10_feed 64 = .ok (.ireturn, 1) := by decide +kernel
def rmX10_feed : Room := rmk 9 0 0 214
theorem nX10_feed : nameOk yX10_feed 5 = true := by decide +kernel
def bX10_feed_0 (J : JT) : List Value → Sem
  | [.ref x0, .int x1, .int x2, .int x3, .int x4, .int x5] =>
    gR 10 0 x0 fun r1 =>
    gI 7 1 r1 fun v2 =>
    br (v2 ≤ (880 : Int32))
    (gR 10 0 x0 fun r3 =>
    ob 7 r3 (cV SX7_addFour [.ref r3, .int x1] <|
    gR 10 0 x0 fun r4 =>
    ob 7 r4 (cV SX7_addFour [.ref r4, .int x2] <|
    gR 10 0 x0 fun r5 =>
    ob 7 r5 (cV SX7_addFour [.ref r5, .int x3] <|
    gR 10 0 x0 fun r6 =>
    ob 7 r6 (cV SX7_addFour [.ref r6, .int x4] <|
    gR 10 0 x0 fun r7 =>
    ob 7 r7 (cV SX7_addFour [.ref r7, .int x5] <|
    gR 10 0 x0 fun r8 =>
    gI 7 1 r8 fun v9 =>
    rI v9))))))
    (rI (-1))
  | _ => no
def bX10_feed (J : JT) : JT := fun L a => match L with
  | 0 => bX10_feed_0 J a
  | _ => no
def SX10_feed : ST := mk 6 bX10_feed
def lX10_feed (L : Nat) (a : List Value) : Nat × Nat × Nat × List (Nat × Value) × List Value := match L with
  | 0 => (0, 0, 0, lv_args 0 a, [])
  | _ => (0, 0, 0, [], [])
theorem pX10_feed_0 {Γ : CT} (hC : Ctx Γ "SpiritWall" cX10_feed 6 (some .int) rmX10_feed) (hnt : NT Γ) (J : JT) (hJ : ∀ L a, Cor Γ 6 (lX10_feed L a).1 (lX10_feed L a).2.1 (lX10_feed L a).2.2.1 (lX10_feed L a).2.2.2.1 (lX10_feed L a).2.2.2.2 (J L a)) (a : List Value) : Cor Γ 6 0 0 0 (lv_args 0 a) [] (bX10_feed_0 J a) := by
  unfold bX10_feed_0
  split
  · rename_i x0 x1 x2 x3 x4 x5
    refine c_sub [0, 1, 2, 3, 4, 5] rfl (loc' := [(0, .ref x0), (1, .int x1), (2, .int x2), (3, .int x3), (4, .int x4), (5, .int x5)]) ?_
    refine q_aload_n hC 0 dX10_feed_0 rfl rfl ?_
    refine q_getR hC (by decide) (by decide) rfl w_128 dX10_feed_1 (fun r1 => ?_)
    refine q_getI hC (by decide) (by decide) rfl w_192 dX10_feed_4 (fun v2 => ?_)
    refine q_sipush hC (v := 880) dX10_feed_7 rfl ?_
    refine q_ic_le hC 15 dX10_feed_10 rfl ?_ ?_
    · refine q_aload_n hC 0 dX10_feed_15 rfl rfl ?_
      refine q_getR hC (by decide) (by decide) rfl w_128 dX10_feed_16 (fun r3 => ?_)
      refine q_iload_n hC 1 dX10_feed_19 rfl rfl ?_
      refine q_cVV hC hnt (stk := []) (as := [.int x1]) sX7_addFour (ci := 7) (by decide) rfl nX7_addFour rfl w_193 w_195 w_196 w_127 w_194 (Nat.le_of_ble_eq_true rfl) dX10_feed_20 rfl ?_
      refine q_aload_n hC 0 dX10_feed_23 rfl rfl ?_
      refine q_getR hC (by decide) (by decide) rfl w_128 dX10_feed_24 (fun r4 => ?_)
      refine q_iload_n hC 2 dX10_feed_27 rfl rfl ?_
      refine q_cVV hC hnt (stk := []) (as := [.int x2]) sX7_addFour (ci := 7) (by decide) rfl nX7_addFour rfl w_193 w_195 w_196 w_127 w_194 (Nat.le_of_ble_eq_true rfl) dX10_feed_28 rfl ?_
      refine q_aload_n hC 0 dX10_feed_31 rfl rfl ?_
      refine q_getR hC (by decide) (by decide) rfl w_128 dX10_feed_32 (fun r5 => ?_)
      refine q_iload_n hC 3 dX10_feed_35 rfl rfl ?_
      refine q_cVV hC hnt (stk := []) (as := [.int x3]) sX7_addFour (ci := 7) (by decide) rfl nX7_addFour rfl w_193 w_195 w_196 w_127 w_194 (Nat.le_of_ble_eq_true rfl) dX10_feed_36 rfl ?_
      refine q_aload_n hC 0 dX10_feed_39 rfl rfl ?_
      refine q_getR hC (by decide) (by decide) rfl w_128 dX10_feed_40 (fun r6 => ?_)
      refine q_iload hC 4 dX10_feed_43 rfl ?_
      refine q_cVV hC hnt (stk := []) (as := [.int x4]) sX7_addFour (ci := 7) (by decide) rfl nX7_addFour rfl w_193 w_195 w_196 w_127 w_194 (Nat.le_of_ble_eq_true rfl) dX10_feed_45 rfl ?_
      refine q_aload_n hC 0 dX10_feed_48 rfl rfl ?_
      refine q_getR hC (by decide) (by decide) rfl w_128 dX10_feed_49 (fun r7 => ?_)
      refine q_iload hC 5 dX10_feed_52 rfl ?_
      refine q_cVV hC hnt (stk := []) (as := [.int x5]) sX7_addFour (ci := 7) (by decide) rfl nX7_addFour rfl w_193 w_195 w_196 w_127 w_194 (Nat.le_of_ble_eq_true rfl) dX10_feed_54 rfl ?_
      refine q_aload_n hC 0 dX10_feed_57 rfl rfl ?_
      refine q_getR hC (by decide) (by decide) rfl w_128 dX10_feed_58 (fun r8 => ?_)
      refine q_getI hC (by decide) (by decide) rfl w_192 dX10_feed_61 (fun v9 => ?_)
      exact q_iret hC dX10_feed_64 (Nat.le_of_ble_eq_true rfl) (Nat.le_of_ble_eq_true rfl)
    · refine q_iconst hC dX10_feed_13 rfl ?_
      exact q_iret hC dX10_feed_14 (Nat.le_of_ble_eq_true rfl) (Nat.le_of_ble_eq_true rfl)
  · exact c_no
theorem sX10_feed : Snd yX10_feed (.code yX10_feed cX10_feed 6 (some .int)) rmX10_feed SX10_feed := by
  refine Snd.of lX10_feed (by decide +kernel) (fun _ => rfl) ?_
  intro Γ hC hnt hnm J hJ L a
  match L with
  | 0 => exact pX10_feed_0 hC hnt J hJ a
  | L + 1 => exact c_no
/-! SpiritWall.truncate(I)Z -/
theorem dX10_truncate_0 : decode cX10_truncate 0 = .ok (.iload_n 1, 1) := by decide +kernel
theorem dX10_truncate_1 : decode cX10_truncate 1 = .ok (.ifCond .lt 14, 3) := by decide +kernel
theorem dX10_truncate_4 : decode cX10_truncate 4 = .ok (.iload_n 1, 1) := by decide +kernel
theorem dX10_truncate_5 : decode cX10_truncate 5 = .ok (.aload_n 0, 1) := by decide +kernel
theorem dX10_truncate_6 : decode cX10_truncate 6 = .ok (.getfield 14, 3) := by decide +kernel
theorem dX10_truncate_9 : decode cX10_truncate 9 = .ok (.getfield 102, 3) := by decide +kernel
theorem dX10_truncate_12 : decode cX10_truncate 12 = .ok (.if_icmp .le 5, 3) := by decide +kernel
theorem dX10_truncate_15 : decode cX10_truncate 15 = .ok (.iconst 0, 1) := by decide +kernel
theorem dX10_truncate_16 : decode cX10_truncate 16 = .ok (.ireturn, 1) := by decide +kernel
theorem dX10_truncate_17 : decode cX10_truncate 17 = .ok (.aload_n 0, 1) := by decide +kernel
theorem dX10_truncate_18 : decode cX10_truncate 18 = .ok (.getfield 14, 3) := by decide +kernel
theorem dX10_truncate_21 : decode cX10_truncate 21 = .ok (.iload_n 1, 1) := by decide +kernel
theorem dX10_truncate_22 : decode cX10_truncate 22 = .ok (.putfield 102, 3) := by decide +kernel
theorem dX10_truncate_25 : decode cX10_truncate 25 = .ok (.iconst 1, 1) := by decide +kernel
theorem dX10_truncate_26 : decode cX10_truncate 26 = .ok (.ireturn, 1) := by decide +kernel
def rmX10_truncate : Room := rmk 6 0 0 150
theorem nX10_truncate : nameOk yX10_truncate 1 = true := by decide +kernel
def bX10_truncate_0 (J : JT) : List Value → Sem
  | [.ref x0, .int x1] =>
    br (x1 < 0)
    (rZ 0)
    (gR 10 0 x0 fun r1 =>
    gI 7 1 r1 fun v2 =>
    br (x1 ≤ v2)
    (gR 10 0 x0 fun r3 =>
    pI 7 1 r3 x1 <|
    rZ 1)
    (rZ 0))
  | _ => no
def bX10_truncate (J : JT) : JT := fun L a => match L with
  | 0 => bX10_truncate_0 J a
  | _ => no
def SX10_truncate : ST := mk 2 bX10_truncate
def lX10_truncate (L : Nat) (a : List Value) : Nat × Nat × Nat × List (Nat × Value) × List Value := match L with
  | 0 => (0, 0, 0, lv_args 0 a, [])
  | _ => (0, 0, 0, [], [])
theorem pX10_truncate_0 {Γ : CT} (hC : Ctx Γ "SpiritWall" cX10_truncate 2 (some .boolean) rmX10_truncate) (hnt : NT Γ) (J : JT) (hJ : ∀ L a, Cor Γ 2 (lX10_truncate L a).1 (lX10_truncate L a).2.1 (lX10_truncate L a).2.2.1 (lX10_truncate L a).2.2.2.1 (lX10_truncate L a).2.2.2.2 (J L a)) (a : List Value) : Cor Γ 2 0 0 0 (lv_args 0 a) [] (bX10_truncate_0 J a) := by
  unfold bX10_truncate_0
  split
  · rename_i x0 x1
    refine c_sub [0, 1] rfl (loc' := [(0, .ref x0), (1, .int x1)]) ?_
    refine q_iload_n hC 1 dX10_truncate_0 rfl rfl ?_
    refine q_if_lt hC 15 dX10_truncate_1 rfl ?_ ?_
    · refine q_iconst hC dX10_truncate_15 rfl ?_
      exact q_zret hC dX10_truncate_16 (Nat.le_of_ble_eq_true rfl) (Nat.le_of_ble_eq_true rfl)
    · refine q_iload_n hC 1 dX10_truncate_4 rfl rfl ?_
      refine q_aload_n hC 0 dX10_truncate_5 rfl rfl ?_
      refine q_getR hC (by decide) (by decide) rfl w_128 dX10_truncate_6 (fun r1 => ?_)
      refine q_getI hC (by decide) (by decide) rfl w_192 dX10_truncate_9 (fun v2 => ?_)
      refine q_ic_le hC 17 dX10_truncate_12 rfl ?_ ?_
      · refine q_aload_n hC 0 dX10_truncate_17 rfl rfl ?_
        refine q_getR hC (by decide) (by decide) rfl w_128 dX10_truncate_18 (fun r3 => ?_)
        refine q_iload_n hC 1 dX10_truncate_21 rfl rfl ?_
        refine q_putI hC (by decide) (by decide) rfl rfl w_192 dX10_truncate_22 ?_
        refine q_iconst hC dX10_truncate_25 rfl ?_
        exact q_zret hC dX10_truncate_26 (Nat.le_of_ble_eq_true rfl) (Nat.le_of_ble_eq_true rfl)
      · refine q_iconst hC dX10_truncate_15 rfl ?_
        exact q_zret hC dX10_truncate_16 (Nat.le_of_ble_eq_true rfl) (Nat.le_of_ble_eq_true rfl)
  · exact c_no
theorem sX10_truncate : Snd yX10_truncate (.code yX10_truncate cX10_truncate 2 (some .boolean)) rmX10_truncate SX10_truncate := by
  refine Snd.of lX10_truncate (by decide +kernel) (fun _ => rfl) ?_
  intro Γ hC hnt hnm J hJ L a
  match L with
  | 0 => exact pX10_truncate_0 hC hnt J hJ a
  | L + 1 => exact c_no
