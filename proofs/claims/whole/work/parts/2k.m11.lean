/-! SpiritWallModel.<init>()V -/
theorem dX11_init_0 : decode cX11_init 0 = .ok (.aload_n 0, 1) := by decide +kernel
theorem dX11_init_1 : decode cX11_init 1 = .ok (.invokespecial 1, 3) := by decide +kernel
theorem dX11_init_4 : decode cX11_init 4 = .ok (.aload_n 0, 1) := by decide +kernel
theorem dX11_init_5 : decode cX11_init 5 = .ok (.sipush 308, 3) := by decide +kernel
theorem dX11_init_8 : decode cX11_init 8 = .ok (.newarray .int, 2) := by decide +kernel
theorem dX11_init_10 : decode cX11_init 10 = .ok (.putfield 7, 3) := by decide +kernel
theorem dX11_init_13 : decode cX11_init 13 = .ok (.aload_n 0, 1) := by decide +kernel
theorem dX11_init_14 : decode cX11_init 14 = .ok (.sipush 308, 3) := by decide +kernel
theorem dX11_init_17 : decode cX11_init 17 = .ok (.newarray .int, 2) := by decide +kernel
theorem dX11_init_19 : decode cX11_init 19 = .ok (.putfield 13, 3) := by decide +kernel
theorem dX11_init_22 : decode cX11_init 22 = .ok (.aload_n 0, 1) := by decide +kernel
theorem dX11_init_23 : decode cX11_init 23 = .ok (.sipush 308, 3) := by decide +kernel
theorem dX11_init_26 : decode cX11_init 26 = .ok (.newarray .int, 2) := by decide +kernel
theorem dX11_init_28 : decode cX11_init 28 = .ok (.putfield 16, 3) := by decide +kernel
theorem dX11_init_31 : decode cX11_init 31 = .ok (.aload_n 0, 1) := by decide +kernel
theorem dX11_init_32 : decode cX11_init 32 = .ok (.sipush 308, 3) := by decide +kernel
theorem dX11_init_35 : decode cX11_init 35 = .ok (.newarray .int, 2) := by decide +kernel
theorem dX11_init_37 : decode cX11_init 37 = .ok (.putfield 19, 3) := by decide +kernel
theorem dX11_init_40 : decode cX11_init 40 = .ok (.aload_n 0, 1) := by decide +kernel
theorem dX11_init_41 : decode cX11_init 41 = .ok (.sipush 308, 3) := by decide +kernel
theorem dX11_init_44 : decode cX11_init 44 = .ok (.newarray .int, 2) := by decide +kernel
theorem dX11_init_46 : decode cX11_init 46 = .ok (.putfield 22, 3) := by decide +kernel
theorem dX11_init_49 : decode cX11_init 49 = .ok (.aload_n 0, 1) := by decide +kernel
theorem dX11_init_50 : decode cX11_init 50 = .ok (.sipush 3080, 3) := by decide +kernel
theorem dX11_init_53 : decode cX11_init 53 = .ok (.newarray .int, 2) := by decide +kernel
theorem dX11_init_55 : decode cX11_init 55 = .ok (.putfield 25, 3) := by decide +kernel
theorem dX11_init_58 : decode cX11_init 58 = .ok (.aload_n 0, 1) := by decide +kernel
theorem dX11_init_59 : decode cX11_init 59 = .ok (.bipush 66, 2) := by decide +kernel
theorem dX11_init_61 : decode cX11_init 61 = .ok (.newarray .int, 2) := by decide +kernel
theorem dX11_init_63 : decode cX11_init 63 = .ok (.putfield 28, 3) := by decide +kernel
theorem dX11_init_66 : decode cX11_init 66 = .ok (.aload_n 0, 1) := by decide +kernel
theorem dX11_init_67 : decode cX11_init 67 = .ok (.sipush 144, 3) := by decide +kernel
theorem dX11_init_70 : decode cX11_init 70 = .ok (.newarray .int, 2) := by decide +kernel
theorem dX11_init_72 : decode cX11_init 72 = .ok (.putfield 31, 3) := by decide +kernel
theorem dX11_init_75 : decode cX11_init 75 = .ok (.aload_n 0, 1) := by decide +kernel
theorem dX11_init_76 : decode cX11_init 76 = .ok (.sipush 144, 3) := by decide +kernel
theorem dX11_init_79 : decode cX11_init 79 = .ok (.newarray .int, 2) := by decide +kernel
theorem dX11_init_81 : decode cX11_init 81 = .ok (.putfield 34, 3) := by decide +kernel
theorem dX11_init_84 : decode cX11_init 84 = .ok (.aload_n 0, 1) := by decide +kernel
theorem dX11_init_85 : decode cX11_init 85 = .ok (.sipush 144, 3) := by decide +kernel
theorem dX11_init_88 : decode cX11_init 88 = .ok (.newarray .int, 2) := by decide +kernel
theorem dX11_init_90 : decode cX11_init 90 = .ok (.putfield 37, 3) := by decide +kernel
theorem dX11_init_93 : decode cX11_init 93 = .ok (.aload_n 0, 1) := by decide +kernel
theorem dX11_init_94 : decode cX11_init 94 = .ok (.sipush 144, 3) := by decide +kernel
theorem dX11_init_97 : decode cX11_init 97 = .ok (.newarray .boolean, 2) := by decide +kernel
theorem dX11_init_99 : decode cX11_init 99 = .ok (.putfield 40, 3) := by decide +kernel
theorem dX11_init_102 : decode cX11_init 102 = .ok (.aload_n 0, 1) := by decide +kernel
theorem dX11_init_103 : decode cX11_init 103 = .ok (.bipush 12, 2) := by decide +kernel
theorem dX11_init_105 : decode cX11_init 105 = .ok (.newarray .int, 2) := by decide +kernel
theorem dX11_init_107 : decode cX11_init 107 = .ok (.putfield 44, 3) := by decide +kernel
theorem dX11_init_110 : decode cX11_init 110 = .ok (.aload_n 0, 1) := by decide +kernel
theorem dX11_init_111 : decode cX11_init 111 = .ok (.bipush 12, 2) := by decide +kernel
theorem dX11_init_113 : decode cX11_init 113 = .ok (.newarray .int, 2) := by decide +kernel
theorem dX11_init_115 : decode cX11_init 115 = .ok (.putfield 47, 3) := by decide +kernel
theorem dX11_init_118 : decode cX11_init 118 = .ok (.aload_n 0, 1) := by decide +kernel
theorem dX11_init_119 : decode cX11_init 119 = .ok (.bipush 12, 2) := by decide +kernel
theorem dX11_init_121 : decode cX11_init 121 = .ok (.newarray .int, 2) := by decide +kernel
theorem dX11_init_123 : decode cX11_init 123 = .ok (.putfield 50, 3) := by decide +kernel
theorem dX11_init_126 : decode cX11_init 126 = .ok (.aload_n 0, 1) := by decide +kernel
theorem dX11_init_127 : decode cX11_init 127 = .ok (.sipush 900, 3) := by decide +kernel
theorem dX11_init_130 : decode cX11_init 130 = .ok (.newarray .byte, 2) := by decide +kernel
theorem dX11_init_132 : decode cX11_init 132 = .ok (.putfield 53, 3) := by decide +kernel
theorem dX11_init_135 : decode cX11_init 135 = .ok (.aload_n 0, 1) := by decide +kernel
theorem dX11_init_136 : decode cX11_init 136 = .ok (.iconst (-1), 1) := by decide +kernel
theorem dX11_init_137 : decode cX11_init 137 = .ok (.putfield 57, 3) := by decide +kernel
theorem dX11_init_140 : decode cX11_init 140 = .ok (.aload_n 0, 1) := by decide +kernel
theorem dX11_init_141 : decode cX11_init 141 = .ok (.sipush 400, 3) := by decide +kernel
theorem dX11_init_144 : decode cX11_init 144 = .ok (.newarray .byte, 2) := by decide +kernel
theorem dX11_init_146 : decode cX11_init 146 = .ok (.putfield 61, 3) := by decide +kernel
theorem dX11_init_149 : decode cX11_init 149 = .ok (.aload_n 0, 1) := by decide +kernel
theorem dX11_init_150 : decode cX11_init 150 = .ok (.invokevirtual 64, 3) := by decide +kernel
theorem dX11_init_153 : decode cX11_init 153 = .ok (.return_, 1) := by decide +kernel
def rmX11_init : Room := rmk 7 16 6598 171
theorem nX11_init : nameOk yX11_init 0 = true := by decide +kernel
def bX11_init_0 (J : JT) : List Value → Sem
  | [.ref x0] =>
    nA 1 308 fun r1 =>
    pR 11 1 x0 (some r1) <|
    nA 1 308 fun r2 =>
    pR 11 2 x0 (some r2) <|
    nA 1 308 fun r3 =>
    pR 11 3 x0 (some r3) <|
    nA 1 308 fun r4 =>
    pR 11 4 x0 (some r4) <|
    nA 1 308 fun r5 =>
    pR 11 5 x0 (some r5) <|
    nA 1 3080 fun r6 =>
    pR 11 6 x0 (some r6) <|
    nA 1 66 fun r7 =>
    pR 11 9 x0 (some r7) <|
    nA 1 144 fun r8 =>
    pR 11 11 x0 (some r8) <|
    nA 1 144 fun r9 =>
    pR 11 12 x0 (some r9) <|
    nA 1 144 fun r10 =>
    pR 11 13 x0 (some r10) <|
    nA 3 144 fun r11 =>
    pR 11 14 x0 (some r11) <|
    nA 1 12 fun r12 =>
    pR 11 15 x0 (some r12) <|
    nA 1 12 fun r13 =>
    pR 11 16 x0 (some r13) <|
    nA 1 12 fun r14 =>
    pR 11 18 x0 (some r14) <|
    nA 2 900 fun r15 =>
    pR 11 19 x0 (some r15) <|
    pI 11 28 x0 (-1) <|
    nA 2 400 fun r16 =>
    pR 11 30 x0 (some r16) <|
    ob 11 x0 (cV SX11_resets [.ref x0] <|
    rV)
  | _ => no
def bX11_init (J : JT) : JT := fun L a => match L with
  | 0 => bX11_init_0 J a
  | _ => no
def SX11_init : ST := mk 1 bX11_init
def lX11_init (L : Nat) (a : List Value) : Nat × Nat × Nat × List (Nat × Value) × List Value := match L with
  | 0 => (0, 0, 0, lv_args 0 a, [])
  | _ => (0, 0, 0, [], [])
theorem pX11_init_0 {Γ : CT} (hC : Ctx Γ "SpiritWallModel" cX11_init 1 none rmX11_init) (hnt : NT Γ) (hnm : (kMe Γ).name = "<init>") (J : JT) (hJ : ∀ L a, Cor Γ 1 (lX11_init L a).1 (lX11_init L a).2.1 (lX11_init L a).2.2.1 (lX11_init L a).2.2.2.1 (lX11_init L a).2.2.2.2 (J L a)) (a : List Value) : Cor Γ 1 0 0 0 (lv_args 0 a) [] (bX11_init_0 J a) := by
  unfold bX11_init_0
  split
  · rename_i x0
    refine c_sub [0] rfl (loc' := [(0, .ref x0)]) ?_
    refine q_aload_n hC 0 dX11_init_0 rfl rfl ?_
    refine q_oinit hC w_809 w_1 w_oinit ⟨(Nat.le_of_ble_eq_true rfl), (Nat.le_of_ble_eq_true rfl)⟩ dX11_init_1 ?_
    refine q_aload_n hC 0 dX11_init_4 rfl rfl ?_
    refine q_sipush hC (v := 308) dX11_init_5 rfl ?_
    refine q_newa hC (atype := .int) (N := 308) (by decide) w_4 rfl (Nat.le_of_ble_eq_true rfl) ⟨(Nat.le_of_ble_eq_true rfl), (Nat.le_of_ble_eq_true rfl)⟩ dX11_init_8 (fun r1 => ?_)
    refine q_putR hC (by decide) (by decide) rfl (Or.inr ⟨hnm, rfl, rfl⟩) w_808 dX11_init_10 ?_
    refine q_aload_n hC 0 dX11_init_13 rfl rfl ?_
    refine q_sipush hC (v := 308) dX11_init_14 rfl ?_
    refine q_newa hC (atype := .int) (N := 308) (by decide) w_4 rfl (Nat.le_of_ble_eq_true rfl) ⟨(Nat.le_of_ble_eq_true rfl), (Nat.le_of_ble_eq_true rfl)⟩ dX11_init_17 (fun r2 => ?_)
    refine q_putR hC (by decide) (by decide) rfl (Or.inr ⟨hnm, rfl, rfl⟩) w_810 dX11_init_19 ?_
    refine q_aload_n hC 0 dX11_init_22 rfl rfl ?_
    refine q_sipush hC (v := 308) dX11_init_23 rfl ?_
    refine q_newa hC (atype := .int) (N := 308) (by decide) w_4 rfl (Nat.le_of_ble_eq_true rfl) ⟨(Nat.le_of_ble_eq_true rfl), (Nat.le_of_ble_eq_true rfl)⟩ dX11_init_26 (fun r3 => ?_)
    refine q_putR hC (by decide) (by decide) rfl (Or.inr ⟨hnm, rfl, rfl⟩) w_811 dX11_init_28 ?_
    refine q_aload_n hC 0 dX11_init_31 rfl rfl ?_
    refine q_sipush hC (v := 308) dX11_init_32 rfl ?_
    refine q_newa hC (atype := .int) (N := 308) (by decide) w_4 rfl (Nat.le_of_ble_eq_true rfl) ⟨(Nat.le_of_ble_eq_true rfl), (Nat.le_of_ble_eq_true rfl)⟩ dX11_init_35 (fun r4 => ?_)
    refine q_putR hC (by decide) (by decide) rfl (Or.inr ⟨hnm, rfl, rfl⟩) w_812 dX11_init_37 ?_
    refine q_aload_n hC 0 dX11_init_40 rfl rfl ?_
    refine q_sipush hC (v := 308) dX11_init_41 rfl ?_
    refine q_newa hC (atype := .int) (N := 308) (by decide) w_4 rfl (Nat.le_of_ble_eq_true rfl) ⟨(Nat.le_of_ble_eq_true rfl), (Nat.le_of_ble_eq_true rfl)⟩ dX11_init_44 (fun r5 => ?_)
    refine q_putR hC (by decide) (by decide) rfl (Or.inr ⟨hnm, rfl, rfl⟩) w_813 dX11_init_46 ?_
    refine q_aload_n hC 0 dX11_init_49 rfl rfl ?_
    refine q_sipush hC (v := 3080) dX11_init_50 rfl ?_
    refine q_newa hC (atype := .int) (N := 3080) (by decide) w_4 rfl (Nat.le_of_ble_eq_true rfl) ⟨(Nat.le_of_ble_eq_true rfl), (Nat.le_of_ble_eq_true rfl)⟩ dX11_init_53 (fun r6 => ?_)
    refine q_putR hC (by decide) (by decide) rfl (Or.inr ⟨hnm, rfl, rfl⟩) w_814 dX11_init_55 ?_
    refine q_aload_n hC 0 dX11_init_58 rfl rfl ?_
    refine q_bipush hC (v := 66) dX11_init_59 rfl ?_
    refine q_newa hC (atype := .int) (N := 66) (by decide) w_4 rfl (Nat.le_of_ble_eq_true rfl) ⟨(Nat.le_of_ble_eq_true rfl), (Nat.le_of_ble_eq_true rfl)⟩ dX11_init_61 (fun r7 => ?_)
    refine q_putR hC (by decide) (by decide) rfl (Or.inr ⟨hnm, rfl, rfl⟩) w_815 dX11_init_63 ?_
    refine q_aload_n hC 0 dX11_init_66 rfl rfl ?_
    refine q_sipush hC (v := 144) dX11_init_67 rfl ?_
    refine q_newa hC (atype := .int) (N := 144) (by decide) w_4 rfl (Nat.le_of_ble_eq_true rfl) ⟨(Nat.le_of_ble_eq_true rfl), (Nat.le_of_ble_eq_true rfl)⟩ dX11_init_70 (fun r8 => ?_)
    refine q_putR hC (by decide) (by decide) rfl (Or.inr ⟨hnm, rfl, rfl⟩) w_816 dX11_init_72 ?_
    refine q_aload_n hC 0 dX11_init_75 rfl rfl ?_
    refine q_sipush hC (v := 144) dX11_init_76 rfl ?_
    refine q_newa hC (atype := .int) (N := 144) (by decide) w_4 rfl (Nat.le_of_ble_eq_true rfl) ⟨(Nat.le_of_ble_eq_true rfl), (Nat.le_of_ble_eq_true rfl)⟩ dX11_init_79 (fun r9 => ?_)
    refine q_putR hC (by decide) (by decide) rfl (Or.inr ⟨hnm, rfl, rfl⟩) w_817 dX11_init_81 ?_
    refine q_aload_n hC 0 dX11_init_84 rfl rfl ?_
    refine q_sipush hC (v := 144) dX11_init_85 rfl ?_
    refine q_newa hC (atype := .int) (N := 144) (by decide) w_4 rfl (Nat.le_of_ble_eq_true rfl) ⟨(Nat.le_of_ble_eq_true rfl), (Nat.le_of_ble_eq_true rfl)⟩ dX11_init_88 (fun r10 => ?_)
    refine q_putR hC (by decide) (by decide) rfl (Or.inr ⟨hnm, rfl, rfl⟩) w_818 dX11_init_90 ?_
    refine q_aload_n hC 0 dX11_init_93 rfl rfl ?_
    refine q_sipush hC (v := 144) dX11_init_94 rfl ?_
    refine q_newa hC (atype := .boolean) (N := 144) (by decide) w_832 rfl (Nat.le_of_ble_eq_true rfl) ⟨(Nat.le_of_ble_eq_true rfl), (Nat.le_of_ble_eq_true rfl)⟩ dX11_init_97 (fun r11 => ?_)
    refine q_putR hC (by decide) (by decide) rfl (Or.inr ⟨hnm, rfl, rfl⟩) w_819 dX11_init_99 ?_
    refine q_aload_n hC 0 dX11_init_102 rfl rfl ?_
    refine q_bipush hC (v := 12) dX11_init_103 rfl ?_
    refine q_newa hC (atype := .int) (N := 12) (by decide) w_4 rfl (Nat.le_of_ble_eq_true rfl) ⟨(Nat.le_of_ble_eq_true rfl), (Nat.le_of_ble_eq_true rfl)⟩ dX11_init_105 (fun r12 => ?_)
    refine q_putR hC (by decide) (by decide) rfl (Or.inr ⟨hnm, rfl, rfl⟩) w_820 dX11_init_107 ?_
    refine q_aload_n hC 0 dX11_init_110 rfl rfl ?_
    refine q_bipush hC (v := 12) dX11_init_111 rfl ?_
    refine q_newa hC (atype := .int) (N := 12) (by decide) w_4 rfl (Nat.le_of_ble_eq_true rfl) ⟨(Nat.le_of_ble_eq_true rfl), (Nat.le_of_ble_eq_true rfl)⟩ dX11_init_113 (fun r13 => ?_)
    refine q_putR hC (by decide) (by decide) rfl (Or.inr ⟨hnm, rfl, rfl⟩) w_821 dX11_init_115 ?_
    refine q_aload_n hC 0 dX11_init_118 rfl rfl ?_
    refine q_bipush hC (v := 12) dX11_init_119 rfl ?_
    refine q_newa hC (atype := .int) (N := 12) (by decide) w_4 rfl (Nat.le_of_ble_eq_true rfl) ⟨(Nat.le_of_ble_eq_true rfl), (Nat.le_of_ble_eq_true rfl)⟩ dX11_init_121 (fun r14 => ?_)
    refine q_putR hC (by decide) (by decide) rfl (Or.inr ⟨hnm, rfl, rfl⟩) w_822 dX11_init_123 ?_
    refine q_aload_n hC 0 dX11_init_126 rfl rfl ?_
    refine q_sipush hC (v := 900) dX11_init_127 rfl ?_
    refine q_newa hC (atype := .byte) (N := 900) (by decide) w_831 rfl (Nat.le_of_ble_eq_true rfl) ⟨(Nat.le_of_ble_eq_true rfl), (Nat.le_of_ble_eq_true rfl)⟩ dX11_init_130 (fun r15 => ?_)
    refine q_putR hC (by decide) (by decide) rfl (Or.inr ⟨hnm, rfl, rfl⟩) w_823 dX11_init_132 ?_
    refine q_aload_n hC 0 dX11_init_135 rfl rfl ?_
    refine q_iconst hC dX11_init_136 rfl ?_
    refine q_putI hC (by decide) (by decide) rfl rfl w_824 dX11_init_137 ?_
    refine q_aload_n hC 0 dX11_init_140 rfl rfl ?_
    refine q_sipush hC (v := 400) dX11_init_141 rfl ?_
    refine q_newa hC (atype := .byte) (N := 400) (by decide) w_831 rfl (Nat.le_of_ble_eq_true rfl) ⟨(Nat.le_of_ble_eq_true rfl), (Nat.le_of_ble_eq_true rfl)⟩ dX11_init_144 (fun r16 => ?_)
    refine q_putR hC (by decide) (by decide) rfl (Or.inr ⟨hnm, rfl, rfl⟩) w_825 dX11_init_146 ?_
    refine q_aload_n hC 0 dX11_init_149 rfl rfl ?_
    refine q_cVV hC hnt (stk := []) (as := []) sX11_resets (ci := 11) (by decide) rfl nX11_resets rfl w_826 w_828 w_829 w_830 w_827 (Nat.le_of_ble_eq_true rfl) dX11_init_150 rfl ?_
    exact q_vret hC dX11_init_153 (Nat.le_of_ble_eq_true rfl) (Nat.le_of_ble_eq_true rfl)
  · exact c_no
theorem sX11_init : Snd yX11_init (.code yX11_init cX11_init 1 none) rmX11_init SX11_init := by
  refine Snd.of lX11_init (by decide +kernel) (fun _ => rfl) ?_
  intro Γ hC hnt hnm J hJ L a
  match L with
  | 0 => exact pX11_init_0 hC hnt hnm J hJ a
  | L + 1 => exact c_no
/-! SpiritWallModel.thrown()I -/
theorem dX11_thrown_0 : decode cX11_thrown 0 = .ok (.aload_n 0, 1) := by decide +kernel
theorem dX11_thrown_1 : decode cX11_thrown 1 = .ok (.getfield 67, 3) := by decide +kernel
theorem dX11_thrown_4 : decode cX11_thrown 4 = .ok (.ireturn, 1) := by decide +kernel
def rmX11_thrown : Room := rmk 6 0 0 150
theorem nX11_thrown : nameOk yX11_thrown 0 = true := by decide +kernel
def bX11_thrown_0 (J : JT) : List Value → Sem
  | [.ref x0] =>
    gI 11 0 x0 fun v1 =>
    rI v1
  | _ => no
def bX11_thrown (J : JT) : JT := fun L a => match L with
  | 0 => bX11_thrown_0 J a
  | _ => no
def SX11_thrown : ST := mk 1 bX11_thrown
def lX11_thrown (L : Nat) (a : List Value) : Nat × Nat × Nat × List (Nat × Value) × List Value := match L with
  | 0 => (0, 0, 0, lv_args 0 a, [])
  | _ => (0, 0, 0, [], [])
theorem pX11_thrown_0 {Γ : CT} (hC : Ctx Γ "SpiritWallModel" cX11_thrown 1 (some .int) rmX11_thrown) (hnt : NT Γ) (J : JT) (hJ : ∀ L a, Cor Γ 1 (lX11_thrown L a).1 (lX11_thrown L a).2.1 (lX11_thrown L a).2.2.1 (lX11_thrown L a).2.2.2.1 (lX11_thrown L a).2.2.2.2 (J L a)) (a : List Value) : Cor Γ 1 0 0 0 (lv_args 0 a) [] (bX11_thrown_0 J a) := by
  unfold bX11_thrown_0
  split
  · rename_i x0
    refine c_sub [0] rfl (loc' := [(0, .ref x0)]) ?_
    refine q_aload_n hC 0 dX11_thrown_0 rfl rfl ?_
    refine q_getI hC (by decide) (by decide) rfl w_833 dX11_thrown_1 (fun v1 => ?_)
    exact q_iret hC dX11_thrown_4 (Nat.le_of_ble_eq_true rfl) (Nat.le_of_ble_eq_true rfl)
  · exact c_no
theorem sX11_thrown : Snd yX11_thrown (.code yX11_thrown cX11_thrown 1 (some .int)) rmX11_thrown SX11_thrown := by
  refine Snd.of lX11_thrown (by decide +kernel) (fun _ => rfl) ?_
  intro Γ hC hnt hnm J hJ L a
  match L with
  | 0 => exact pX11_thrown_0 hC hnt J hJ a
  | L + 1 => exact c_no
/-! SpiritWallModel.is(Z)Z -/
theorem dX11_is_0 : decode cX11_is 0 = .ok (.aload_n 0, 1) := by decide +kernel
theorem dX11_is_1 : decode cX11_is 1 = .ok (.iload_n 1, 1) := by decide +kernel
theorem dX11_is_2 : decode cX11_is 2 = .ok (.ifCond .eq 7, 3) := by decide +kernel
theorem dX11_is_5 : decode cX11_is 5 = .ok (.iconst 0, 1) := by decide +kernel
theorem dX11_is_6 : decode cX11_is 6 = .ok (.goto 4, 3) := by decide +kernel
theorem dX11_is_9 : decode cX11_is 9 = .ok (.iconst 1, 1) := by decide +kernel
theorem dX11_is_10 : decode cX11_is 10 = .ok (.putfield 67, 3) := by decide +kernel
theorem dX11_is_13 : decode cX11_is 13 = .ok (.iload_n 1, 1) := by decide +kernel
theorem dX11_is_14 : decode cX11_is 14 = .ok (.ireturn, 1) := by decide +kernel
def rmX11_is : Room := rmk 6 0 0 150
theorem nX11_is : nameOk yX11_is 1 = true := by decide +kernel
def bX11_is_0 (J : JT) : List Value → Sem
  | [.ref x0, .int x1] =>
    br (x1 = 0)
    (pI 11 0 x0 1 <|
    rZ x1)
    (pI 11 0 x0 0 <|
    rZ x1)
  | _ => no
def bX11_is (J : JT) : JT := fun L a => match L with
  | 0 => bX11_is_0 J a
  | _ => no
def SX11_is : ST := mk 2 bX11_is
def lX11_is (L : Nat) (a : List Value) : Nat × Nat × Nat × List (Nat × Value) × List Value := match L with
  | 0 => (0, 0, 0, lv_args 0 a, [])
  | _ => (0, 0, 0, [], [])
theorem pX11_is_0 {Γ : CT} (hC : Ctx Γ "SpiritWallModel" cX11_is 2 (some .boolean) rmX11_is) (hnt : NT Γ) (J : JT) (hJ : ∀ L a, Cor Γ 2 (lX11_is L a).1 (lX11_is L a).2.1 (lX11_is L a).2.2.1 (lX11_is L a).2.2.2.1 (lX11_is L a).2.2.2.2 (J L a)) (a : List Value) : Cor Γ 2 0 0 0 (lv_args 0 a) [] (bX11_is_0 J a) := by
  unfold bX11_is_0
  split
  · rename_i x0 x1
    refine c_sub [0, 1] rfl (loc' := [(0, .ref x0), (1, .int x1)]) ?_
    refine q_aload_n hC 0 dX11_is_0 rfl rfl ?_
    refine q_iload_n hC 1 dX11_is_1 rfl rfl ?_
    refine q_if_eq hC 9 dX11_is_2 rfl ?_ ?_
    · refine q_iconst hC dX11_is_9 rfl ?_
      refine q_putI hC (by decide) (by decide) rfl rfl w_833 dX11_is_10 ?_
      refine q_iload_n hC 1 dX11_is_13 rfl rfl ?_
      exact q_zret hC dX11_is_14 (Nat.le_of_ble_eq_true rfl) (Nat.le_of_ble_eq_true rfl)
    · refine q_iconst hC dX11_is_5 rfl ?_
      refine q_goto hC 10 dX11_is_6 rfl ?_
      refine q_putI hC (by decide) (by decide) rfl rfl w_833 dX11_is_10 ?_
      refine q_iload_n hC 1 dX11_is_13 rfl rfl ?_
      exact q_zret hC dX11_is_14 (Nat.le_of_ble_eq_true rfl) (Nat.le_of_ble_eq_true rfl)
  · exact c_no
theorem sX11_is : Snd yX11_is (.code yX11_is cX11_is 2 (some .boolean)) rmX11_is SX11_is := by
  refine Snd.of lX11_is (by decide +kernel) (fun _ => rfl) ?_
  intro Γ hC hnt hnm J hJ L a
  match L with
  | 0 => exact pX11_is_0 hC hnt J hJ a
  | L + 1 => exact c_no
/-! SpiritWallModel.may(ZI)Z -/
theorem dX11_may_0 : decode cX11_may 0 = .ok (.aload_n 0, 1) := by decide +kernel
theorem dX11_may_1 : decode cX11_may 1 = .ok (.iload_n 1, 1) := by decide +kernel
theorem dX11_may_2 : decode cX11_may 2 = .ok (.ifCond .eq 7, 3) := by decide +kernel
theorem dX11_may_5 : decode cX11_may 5 = .ok (.iconst 0, 1) := by decide +kernel
theorem dX11_may_6 : decode cX11_may 6 = .ok (.goto 4, 3) := by decide +kernel
theorem dX11_may_9 : decode cX11_may 9 = .ok (.iload_n 2, 1) := by decide +kernel
theorem dX11_may_10 : decode cX11_may 10 = .ok (.putfield 67, 3) := by decide +kernel
theorem dX11_may_13 : decode cX11_may 13 = .ok (.iload_n 1, 1) := by decide +kernel
theorem dX11_may_14 : decode cX11_may 14 = .ok (.ireturn, 1) := by decide +kernel
def rmX11_may : Room := rmk 6 0 0 150
theorem nX11_may : nameOk yX11_may 2 = true := by decide +kernel
def bX11_may_0 (J : JT) : List Value → Sem
  | [.ref x0, .int x1, .int x2] =>
    br (x1 = 0)
    (pI 11 0 x0 x2 <|
    rZ x1)
    (pI 11 0 x0 0 <|
    rZ x1)
  | _ => no
def bX11_may (J : JT) : JT := fun L a => match L with
  | 0 => bX11_may_0 J a
  | _ => no
def SX11_may : ST := mk 3 bX11_may
def lX11_may (L : Nat) (a : List Value) : Nat × Nat × Nat × List (Nat × Value) × List Value := match L with
  | 0 => (0, 0, 0, lv_args 0 a, [])
  | _ => (0, 0, 0, [], [])
theorem pX11_may_0 {Γ : CT} (hC : Ctx Γ "SpiritWallModel" cX11_may 3 (some .boolean) rmX11_may) (hnt : NT Γ) (J : JT) (hJ : ∀ L a, Cor Γ 3 (lX11_may L a).1 (lX11_may L a).2.1 (lX11_may L a).2.2.1 (lX11_may L a).2.2.2.1 (lX11_may L a).2.2.2.2 (J L a)) (a : List Value) : Cor Γ 3 0 0 0 (lv_args 0 a) [] (bX11_may_0 J a) := by
  unfold bX11_may_0
  split
  · rename_i x0 x1 x2
    refine c_sub [0, 1, 2] rfl (loc' := [(0, .ref x0), (1, .int x1), (2, .int x2)]) ?_
    refine q_aload_n hC 0 dX11_may_0 rfl rfl ?_
    refine q_iload_n hC 1 dX11_may_1 rfl rfl ?_
    refine q_if_eq hC 9 dX11_may_2 rfl ?_ ?_
    · refine q_iload_n hC 2 dX11_may_9 rfl rfl ?_
      refine q_putI hC (by decide) (by decide) rfl rfl w_833 dX11_may_10 ?_
      refine q_iload_n hC 1 dX11_may_13 rfl rfl ?_
      exact q_zret hC dX11_may_14 (Nat.le_of_ble_eq_true rfl) (Nat.le_of_ble_eq_true rfl)
    · refine q_iconst hC dX11_may_5 rfl ?_
      refine q_goto hC 10 dX11_may_6 rfl ?_
      refine q_putI hC (by decide) (by decide) rfl rfl w_833 dX11_may_10 ?_
      refine q_iload_n hC 1 dX11_may_13 rfl rfl ?_
      exact q_zret hC dX11_may_14 (Nat.le_of_ble_eq_true rfl) (Nat.le_of_ble_eq_true rfl)
  · exact c_no
theorem sX11_may : Snd yX11_may (.code yX11_may cX11_may 3 (some .boolean)) rmX11_may SX11_may := by
  refine Snd.of lX11_may (by decide +kernel) (fun _ => rfl) ?_
  intro Γ hC hnt hnm J hJ L a
  match L with
  | 0 => exact pX11_may_0 hC hnt J hJ a
  | L + 1 => exact c_no
/-! SpiritWallModel.isIn(JJJ)Z -/
theorem dX11_isIn_0 : decode cX11_isIn 0 = .ok (.lload_n 0, 1) := by decide +kernel
theorem dX11_isIn_1 : decode cX11_isIn 1 = .ok (.lload_n 2, 1) := by decide +kernel
theorem dX11_isIn_2 : decode cX11_isIn 2 = .ok (.lcmp, 1) := by decide +kernel
theorem dX11_isIn_3 : decode cX11_isIn 3 = .ok (.ifCond .lt 14, 3) := by decide +kernel
theorem dX11_isIn_6 : decode cX11_isIn 6 = .ok (.lload_n 0, 1) := by decide +kernel
theorem dX11_isIn_7 : decode cX11_isIn 7 = .ok (.lload 4, 2) := by decide +kernel
theorem dX11_isIn_9 : decode cX11_isIn 9 = .ok (.lcmp, 1) := by decide +kernel
theorem dX11_isIn_10 : decode cX11_isIn 10 = .ok (.ifCond .gt 7, 3) := by decide +kernel
theorem dX11_isIn_13 : decode cX11_isIn 13 = .ok (.iconst 1, 1) := by decide +kernel
theorem dX11_isIn_14 : decode cX11_isIn 14 = .ok (.goto 4, 3) := by decide +kernel
theorem dX11_isIn_17 : decode cX11_isIn 17 = .ok (.iconst 0, 1) := by decide +kernel
theorem dX11_isIn_18 : decode cX11_isIn 18 = .ok (.ireturn, 1) := by decide +kernel
def rmX11_isIn : Room := rmk 6 0 0 150
theorem nX11_isIn : nameOk yX11_isIn 3 = true := by decide +kernel
def bX11_isIn_0 (J : JT) : List Value → Sem
  | [.long x0, .long x2, .long x4] =>
    br ((lg_cmp x0 x2) < 0)
    (rZ 0)
    (br (0 < (lg_cmp x0 x4))
    (rZ 0)
    (rZ 1))
  | _ => no
def bX11_isIn (J : JT) : JT := fun L a => match L with
  | 0 => bX11_isIn_0 J a
  | _ => no
def SX11_isIn : ST := mk 6 bX11_isIn
def lX11_isIn (L : Nat) (a : List Value) : Nat × Nat × Nat × List (Nat × Value) × List Value := match L with
  | 0 => (0, 0, 0, lv_args 0 a, [])
  | _ => (0, 0, 0, [], [])
theorem pX11_isIn_0 {Γ : CT} (hC : Ctx Γ "SpiritWallModel" cX11_isIn 6 (some .boolean) rmX11_isIn) (hnt : NT Γ) (J : JT) (hJ : ∀ L a, Cor Γ 6 (lX11_isIn L a).1 (lX11_isIn L a).2.1 (lX11_isIn L a).2.2.1 (lX11_isIn L a).2.2.2.1 (lX11_isIn L a).2.2.2.2 (J L a)) (a : List Value) : Cor Γ 6 0 0 0 (lv_args 0 a) [] (bX11_isIn_0 J a) := by
  unfold bX11_isIn_0
  split
  · rename_i x0 x2 x4
    refine c_sub [0, 1, 2] rfl (loc' := [(0, .long x0), (2, .long x2), (4, .long x4)]) ?_
    refine q_lload_n hC 0 dX11_isIn_0 rfl rfl ?_
    refine q_lload_n hC 1 dX11_isIn_1 rfl rfl ?_
    refine q_lcmp hC dX11_isIn_2 ?_
    refine q_if_lt hC 17 dX11_isIn_3 rfl ?_ ?_
    · refine q_iconst hC dX11_isIn_17 rfl ?_
      exact q_zret hC dX11_isIn_18 (Nat.le_of_ble_eq_true rfl) (Nat.le_of_ble_eq_true rfl)
    · refine q_lload_n hC 0 dX11_isIn_6 rfl rfl ?_
      refine q_lload hC 2 dX11_isIn_7 rfl ?_
      refine q_lcmp hC dX11_isIn_9 ?_
      refine q_if_gt hC 17 dX11_isIn_10 rfl ?_ ?_
      · refine q_iconst hC dX11_isIn_17 rfl ?_
        exact q_zret hC dX11_isIn_18 (Nat.le_of_ble_eq_true rfl) (Nat.le_of_ble_eq_true rfl)
      · refine q_iconst hC dX11_isIn_13 rfl ?_
        refine q_goto hC 18 dX11_isIn_14 rfl ?_
        exact q_zret hC dX11_isIn_18 (Nat.le_of_ble_eq_true rfl) (Nat.le_of_ble_eq_true rfl)
  · exact c_no
theorem sX11_isIn : Snd yX11_isIn (.code yX11_isIn cX11_isIn 6 (some .boolean)) rmX11_isIn SX11_isIn := by
  refine Snd.of lX11_isIn (by decide +kernel) (fun _ => rfl) ?_
  intro Γ hC hnt hnm J hJ L a
  match L with
  | 0 => exact pX11_isIn_0 hC hnt J hJ a
  | L + 1 => exact c_no
/-! SpiritWallModel.copies([I[I)V -/
theorem dX11_copies_0 : decode cX11_copies 0 = .ok (.iconst 0, 1) := by decide +kernel
theorem dX11_copies_1 : decode cX11_copies 1 = .ok (.istore_n 2, 1) := by decide +kernel
theorem dX11_copies_2 : decode cX11_copies 2 = .ok (.iload_n 2, 1) := by decide +kernel
theorem dX11_copies_3 : decode cX11_copies 3 = .ok (.sipush 308, 3) := by decide +kernel
theorem dX11_copies_6 : decode cX11_copies 6 = .ok (.if_icmp .ge 15, 3) := by decide +kernel
theorem dX11_copies_9 : decode cX11_copies 9 = .ok (.aload_n 1, 1) := by decide +kernel
theorem dX11_copies_10 : decode cX11_copies 10 = .ok (.iload_n 2, 1) := by decide +kernel
theorem dX11_copies_11 : decode cX11_copies 11 = .ok (.aload_n 0, 1) := by decide +kernel
theorem dX11_copies_12 : decode cX11_copies 12 = .ok (.iload_n 2, 1) := by decide +kernel
theorem dX11_copies_13 : decode cX11_copies 13 = .ok (.iaload, 1) := by decide +kernel
theorem dX11_copies_14 : decode cX11_copies 14 = .ok (.iastore, 1) := by decide +kernel
theorem dX11_copies_15 : decode cX11_copies 15 = .ok (.iinc 2 1, 3) := by decide +kernel
theorem dX11_copies_18 : decode cX11_copies 18 = .ok (.goto (-16), 3) := by decide +kernel
theorem dX11_copies_21 : decode cX11_copies 21 = .ok (.return_, 1) := by decide +kernel
def rmX11_copies : Room := rmk 6 0 0 150
theorem nX11_copies : nameOk yX11_copies 2 = true := by decide +kernel
def bX11_copies_0 (J : JT) : List Value → Sem
  | [.ref x0, .ref x1] =>
    J 1 [.ref x0, .ref x1, .int 0]
  | _ => no
def bX11_copies_1 (J : JT) : List Value → Sem
  | [.ref x0, .ref x1, .int x2] =>
    br ((308 : Int32) ≤ x2)
    (rV)
    (aI x0 x2 fun v1 =>
    sA x1 x2 v1 <|
    J 1 [.ref x0, .ref x1, .int (x2 + 1)])
  | _ => no
def bX11_copies (J : JT) : JT := fun L a => match L with
  | 0 => bX11_copies_0 J a
  | 1 => bX11_copies_1 J a
  | _ => no
def SX11_copies : ST := mk 3 bX11_copies
def lX11_copies (L : Nat) (a : List Value) : Nat × Nat × Nat × List (Nat × Value) × List Value := match L with
  | 0 => (0, 0, 0, lv_args 0 a, [])
  | 1 => (0, 0, 2, List.zip [0, 1, 2] a, [])
  | _ => (0, 0, 0, [], [])
theorem pX11_copies_0 {Γ : CT} (hC : Ctx Γ "SpiritWallModel" cX11_copies 3 none rmX11_copies) (hnt : NT Γ) (J : JT) (hJ : ∀ L a, Cor Γ 3 (lX11_copies L a).1 (lX11_copies L a).2.1 (lX11_copies L a).2.2.1 (lX11_copies L a).2.2.2.1 (lX11_copies L a).2.2.2.2 (J L a)) (a : List Value) : Cor Γ 3 0 0 0 (lv_args 0 a) [] (bX11_copies_0 J a) := by
  unfold bX11_copies_0
  split
  · rename_i x0 x1
    refine c_sub [0, 1] rfl (loc' := [(0, .ref x0), (1, .ref x1)]) ?_
    refine q_iconst hC dX11_copies_0 rfl ?_
    refine q_istore_nA hC (loc' := [(2, .int 0), (0, .ref x0), (1, .ref x1)]) dX11_copies_1 rfl (Nat.le_of_ble_eq_true rfl) rfl ?_
    exact c_sub [1, 2, 0] rfl (hJ 1 [.ref x0, .ref x1, .int 0])
  · exact c_no
theorem pX11_copies_1 {Γ : CT} (hC : Ctx Γ "SpiritWallModel" cX11_copies 3 none rmX11_copies) (hnt : NT Γ) (J : JT) (hJ : ∀ L a, Cor Γ 3 (lX11_copies L a).1 (lX11_copies L a).2.1 (lX11_copies L a).2.2.1 (lX11_copies L a).2.2.2.1 (lX11_copies L a).2.2.2.2 (J L a)) (a : List Value) : Cor Γ 3 0 0 2 (List.zip [0, 1, 2] a) [] (bX11_copies_1 J a) := by
  unfold bX11_copies_1
  split
  · rename_i x0 x1 x2
    refine c_sub [0, 1, 2] rfl (loc' := [(0, .ref x0), (1, .ref x1), (2, .int x2)]) ?_
    refine q_iload_n hC 2 dX11_copies_2 rfl rfl ?_
    refine q_sipush hC (v := 308) dX11_copies_3 rfl ?_
    refine q_ic_ge hC 21 dX11_copies_6 rfl ?_ ?_
    · exact q_vret hC dX11_copies_21 (Nat.le_of_ble_eq_true rfl) (Nat.le_of_ble_eq_true rfl)
    · refine q_aload_n hC 1 dX11_copies_9 rfl rfl ?_
      refine q_iload_n hC 2 dX11_copies_10 rfl rfl ?_
      refine q_aload_n hC 0 dX11_copies_11 rfl rfl ?_
      refine q_iload_n hC 2 dX11_copies_12 rfl rfl ?_
      refine q_iald hC dX11_copies_13 (fun v1 => ?_)
      refine q_iast hC dX11_copies_14 ?_
      refine q_iincA hC (loc' := [(2, .int (x2 + 1)), (0, .ref x0), (1, .ref x1)]) 2 1 dX11_copies_15 rfl rfl (Nat.le_of_ble_eq_true rfl) rfl ?_
      refine q_goto hC 2 dX11_copies_18 rfl ?_
      exact c_sub [1, 2, 0] rfl (hJ 1 [.ref x0, .ref x1, .int (x2 + 1)])
  · exact c_no
theorem sX11_copies : Snd yX11_copies (.code yX11_copies cX11_copies 3 none) rmX11_copies SX11_copies := by
  refine Snd.of lX11_copies (by decide +kernel) (fun _ => rfl) ?_
  intro Γ hC hnt hnm J hJ L a
  match L with
  | 0 => exact pX11_copies_0 hC hnt J hJ a
  | 1 => exact pX11_copies_1 hC hnt J hJ a
  | L + 2 => exact c_no
/-! SpiritWallModel.starts()V -/
theorem dX11_starts_0 : decode cX11_starts 0 = .ok (.aload_n 0, 1) := by decide +kernel
theorem dX11_starts_1 : decode cX11_starts 1 = .ok (.getfield 7, 3) := by decide +kernel
theorem dX11_starts_4 : decode cX11_starts 4 = .ok (.aload_n 0, 1) := by decide +kernel
theorem dX11_starts_5 : decode cX11_starts 5 = .ok (.getfield 13, 3) := by decide +kernel
theorem dX11_starts_8 : decode cX11_starts 8 = .ok (.invokestatic 70, 3) := by decide +kernel
theorem dX11_starts_11 : decode cX11_starts 11 = .ok (.return_, 1) := by decide +kernel
def rmX11_starts : Room := rmk 7 0 0 172
theorem nX11_starts : nameOk yX11_starts 0 = true := by decide +kernel
def bX11_starts_0 (J : JT) : List Value → Sem
  | [.ref x0] =>
    gR 11 1 x0 fun r1 =>
    gR 11 2 x0 fun r2 =>
    cV SX11_copies [.ref r1, .ref r2] <|
    rV
  | _ => no
def bX11_starts (J : JT) : JT := fun L a => match L with
  | 0 => bX11_starts_0 J a
  | _ => no
def SX11_starts : ST := mk 1 bX11_starts
def lX11_starts (L : Nat) (a : List Value) : Nat × Nat × Nat × List (Nat × Value) × List Value := match L with
  | 0 => (0, 0, 0, lv_args 0 a, [])
  | _ => (0, 0, 0, [], [])
theorem pX11_starts_0 {Γ : CT} (hC : Ctx Γ "SpiritWallModel" cX11_starts 1 none rmX11_starts) (hnt : NT Γ) (J : JT) (hJ : ∀ L a, Cor Γ 1 (lX11_starts L a).1 (lX11_starts L a).2.1 (lX11_starts L a).2.2.1 (lX11_starts L a).2.2.2.1 (lX11_starts L a).2.2.2.2 (J L a)) (a : List Value) : Cor Γ 1 0 0 0 (lv_args 0 a) [] (bX11_starts_0 J a) := by
  unfold bX11_starts_0
  split
  · rename_i x0
    refine c_sub [0] rfl (loc' := [(0, .ref x0)]) ?_
    refine q_aload_n hC 0 dX11_starts_0 rfl rfl ?_
    refine q_getR hC (by decide) (by decide) rfl w_808 dX11_starts_1 (fun r1 => ?_)
    refine q_aload_n hC 0 dX11_starts_4 rfl rfl ?_
    refine q_getR hC (by decide) (by decide) rfl w_810 dX11_starts_5 (fun r2 => ?_)
    refine q_cSV hC hnt (stk := []) (as := [.ref r1, .ref r2]) sX11_copies nX11_copies rfl w_834 w_836 w_830 w_835 (Nat.le_of_ble_eq_true rfl) dX11_starts_8 rfl ?_
    exact q_vret hC dX11_starts_11 (Nat.le_of_ble_eq_true rfl) (Nat.le_of_ble_eq_true rfl)
  · exact c_no
theorem sX11_starts : Snd yX11_starts (.code yX11_starts cX11_starts 1 none) rmX11_starts SX11_starts := by
  refine Snd.of lX11_starts (by decide +kernel) (fun _ => rfl) ?_
  intro Γ hC hnt hnm J hJ L a
  match L with
  | 0 => exact pX11_starts_0 hC hnt J hJ a
  | L + 1 => exact c_no
/-! SpiritWallModel.done(I)I -/
theorem dX11_done_0 : decode cX11_done 0 = .ok (.aload_n 0, 1) := by decide +kernel
theorem dX11_done_1 : decode cX11_done 1 = .ok (.getfield 74, 3) := by decide +kernel
theorem dX11_done_4 : decode cX11_done 4 = .ok (.bipush 10, 2) := by decide +kernel
theorem dX11_done_6 : decode cX11_done 6 = .ok (.if_icmp .ne 44, 3) := by decide +kernel
theorem dX11_done_9 : decode cX11_done 9 = .ok (.iconst 0, 1) := by decide +kernel
theorem dX11_done_10 : decode cX11_done 10 = .ok (.istore_n 2, 1) := by decide +kernel
theorem dX11_done_11 : decode cX11_done 11 = .ok (.iload_n 2, 1) := by decide +kernel
theorem dX11_done_12 : decode cX11_done 12 = .ok (.sipush 2772, 3) := by decide +kernel
theorem dX11_done_15 : decode cX11_done 15 = .ok (.if_icmp .ge 25, 3) := by decide +kernel
theorem dX11_done_18 : decode cX11_done 18 = .ok (.aload_n 0, 1) := by decide +kernel
theorem dX11_done_19 : decode cX11_done 19 = .ok (.getfield 25, 3) := by decide +kernel
theorem dX11_done_22 : decode cX11_done 22 = .ok (.iload_n 2, 1) := by decide +kernel
theorem dX11_done_23 : decode cX11_done 23 = .ok (.aload_n 0, 1) := by decide +kernel
theorem dX11_done_24 : decode cX11_done 24 = .ok (.getfield 25, 3) := by decide +kernel
theorem dX11_done_27 : decode cX11_done 27 = .ok (.iload_n 2, 1) := by decide +kernel
theorem dX11_done_28 : decode cX11_done 28 = .ok (.sipush 308, 3) := by decide +kernel
theorem dX11_done_31 : decode cX11_done 31 = .ok (.iadd, 1) := by decide +kernel
theorem dX11_done_32 : decode cX11_done 32 = .ok (.iaload, 1) := by decide +kernel
theorem dX11_done_33 : decode cX11_done 33 = .ok (.iastore, 1) := by decide +kernel
theorem dX11_done_34 : decode cX11_done 34 = .ok (.iinc 2 1, 3) := by decide +kernel
theorem dX11_done_37 : decode cX11_done 37 = .ok (.goto (-26), 3) := by decide +kernel
theorem dX11_done_40 : decode cX11_done 40 = .ok (.aload_n 0, 1) := by decide +kernel
theorem dX11_done_41 : decode cX11_done 41 = .ok (.aload_n 0, 1) := by decide +kernel
theorem dX11_done_42 : decode cX11_done 42 = .ok (.getfield 74, 3) := by decide +kernel
theorem dX11_done_45 : decode cX11_done 45 = .ok (.iconst 1, 1) := by decide +kernel
theorem dX11_done_46 : decode cX11_done 46 = .ok (.isub, 1) := by decide +kernel
theorem dX11_done_47 : decode cX11_done 47 = .ok (.putfield 74, 3) := by decide +kernel
theorem dX11_done_50 : decode cX11_done 50 = .ok (.iconst 0, 1) := by decide +kernel
theorem dX11_done_51 : decode cX11_done 51 = .ok (.istore_n 2, 1) := by decide +kernel
theorem dX11_done_52 : decode cX11_done 52 = .ok (.iload_n 2, 1) := by decide +kernel
theorem dX11_done_53 : decode cX11_done 53 = .ok (.sipush 308, 3) := by decide +kernel
theorem dX11_done_56 : decode cX11_done 56 = .ok (.if_icmp .ge 30, 3) := by decide +kernel
theorem dX11_done_59 : decode cX11_done 59 = .ok (.aload_n 0, 1) := by decide +kernel
theorem dX11_done_60 : decode cX11_done 60 = .ok (.getfield 25, 3) := by decide +kernel
theorem dX11_done_63 : decode cX11_done 63 = .ok (.sipush 308, 3) := by decide +kernel
theorem dX11_done_66 : decode cX11_done 66 = .ok (.aload_n 0, 1) := by decide +kernel
theorem dX11_done_67 : decode cX11_done 67 = .ok (.getfield 74, 3) := by decide +kernel
theorem dX11_done_70 : decode cX11_done 70 = .ok (.imul, 1) := by decide +kernel
theorem dX11_done_71 : decode cX11_done 71 = .ok (.iload_n 2, 1) := by decide +kernel
theorem dX11_done_72 : decode cX11_done 72 = .ok (.iadd, 1) := by decide +kernel
theorem dX11_done_73 : decode cX11_done 73 = .ok (.aload_n 0, 1) := by decide +kernel
theorem dX11_done_74 : decode cX11_done 74 = .ok (.getfield 13, 3) := by decide +kernel
theorem dX11_done_77 : decode cX11_done 77 = .ok (.iload_n 2, 1) := by decide +kernel
theorem dX11_done_78 : decode cX11_done 78 = .ok (.iaload, 1) := by decide +kernel
theorem dX11_done_79 : decode cX11_done 79 = .ok (.iastore, 1) := by decide +kernel
theorem dX11_done_80 : decode cX11_done 80 = .ok (.iinc 2 1, 3) := by decide +kernel
theorem dX11_done_83 : decode cX11_done 83 = .ok (.goto (-31), 3) := by decide +kernel
theorem dX11_done_86 : decode cX11_done 86 = .ok (.aload_n 0, 1) := by decide +kernel
theorem dX11_done_87 : decode cX11_done 87 = .ok (.aload_n 0, 1) := by decide +kernel
theorem dX11_done_88 : decode cX11_done 88 = .ok (.getfield 74, 3) := by decide +kernel
theorem dX11_done_91 : decode cX11_done 91 = .ok (.iconst 1, 1) := by decide +kernel
theorem dX11_done_92 : decode cX11_done 92 = .ok (.iadd, 1) := by decide +kernel
theorem dX11_done_93 : decode cX11_done 93 = .ok (.putfield 74, 3) := by decide +kernel
theorem dX11_done_96 : decode cX11_done 96 = .ok (.iload_n 1, 1) := by decide +kernel
theorem dX11_done_97 : decode cX11_done 97 = .ok (.ireturn, 1) := by decide +kernel
def rmX11_done : Room := rmk 6 0 0 150
theorem nX11_done : nameOk yX11_done 1 = true := by decide +kernel
def bX11_done_0 (J : JT) : List Value → Sem
  | [.ref x0, .int x1] =>
    gI 11 7 x0 fun v1 =>
    br (v1 = (10 : Int32))
    (J 1 [.ref x0, .int x1, .int 0])
    (J 2 [.ref x0, .int x1, .int 0])
  | _ => no
def bX11_done_1 (J : JT) : List Value → Sem
  | [.ref x0, .int x1, .int x2] =>
    br ((2772 : Int32) ≤ x2)
    (gI 11 7 x0 fun v1 =>
    pI 11 7 x0 (v1 - 1) <|
    J 2 [.ref x0, .int x1, .int 0])
    (gR 11 6 x0 fun r2 =>
    gR 11 6 x0 fun r3 =>
    aI r3 (x2 + 308) fun v4 =>
    sA r2 x2 v4 <|
    J 1 [.ref x0, .int x1, .int (x2 + 1)])
  | _ => no
def bX11_done_2 (J : JT) : List Value → Sem
  | [.ref x0, .int x1, .int x2] =>
    br ((308 : Int32) ≤ x2)
    (gI 11 7 x0 fun v1 =>
    pI 11 7 x0 (v1 + 1) <|
    rI x1)
    (gR 11 6 x0 fun r2 =>
    gI 11 7 x0 fun v3 =>
    gR 11 2 x0 fun r4 =>
    aI r4 x2 fun v5 =>
    sA r2 ((308 * v3) + x2) v5 <|
    J 2 [.ref x0, .int x1, .int (x2 + 1)])
  | _ => no
def bX11_done (J : JT) : JT := fun L a => match L with
  | 0 => bX11_done_0 J a
  | 1 => bX11_done_1 J a
  | 2 => bX11_done_2 J a
  | _ => no
def SX11_done : ST := mk 3 bX11_done
def lX11_done (L : Nat) (a : List Value) : Nat × Nat × Nat × List (Nat × Value) × List Value := match L with
  | 0 => (0, 0, 0, lv_args 0 a, [])
  | 1 => (0, 0, 11, List.zip [0, 1, 2] a, [])
  | 2 => (0, 0, 52, List.zip [0, 1, 2] a, [])
  | _ => (0, 0, 0, [], [])
theorem pX11_done_0 {Γ : CT} (hC : Ctx Γ "SpiritWallModel" cX11_done 3 (some .int) rmX11_done) (hnt : NT Γ) (J : JT) (hJ : ∀ L a, Cor Γ 3 (lX11_done L a).1 (lX11_done L a).2.1 (lX11_done L a).2.2.1 (lX11_done L a).2.2.2.1 (lX11_done L a).2.2.2.2 (J L a)) (a : List Value) : Cor Γ 3 0 0 0 (lv_args 0 a) [] (bX11_done_0 J a) := by
  unfold bX11_done_0
  split
  · rename_i x0 x1
    refine c_sub [0, 1] rfl (loc' := [(0, .ref x0), (1, .int x1)]) ?_
    refine q_aload_n hC 0 dX11_done_0 rfl rfl ?_
    refine q_getI hC (by decide) (by decide) rfl w_837 dX11_done_1 (fun v1 => ?_)
    refine q_bipush hC (v := 10) dX11_done_4 rfl ?_
    refine q_ic_ne hC 50 dX11_done_6 rfl ?_ ?_
    · refine q_iconst hC dX11_done_50 rfl ?_
      refine q_istore_nA hC (loc' := [(2, .int 0), (0, .ref x0), (1, .int x1)]) dX11_done_51 rfl (Nat.le_of_ble_eq_true rfl) rfl ?_
      exact c_sub [1, 2, 0] rfl (hJ 2 [.ref x0, .int x1, .int 0])
    · refine q_iconst hC dX11_done_9 rfl ?_
      refine q_istore_nA hC (loc' := [(2, .int 0), (0, .ref x0), (1, .int x1)]) dX11_done_10 rfl (Nat.le_of_ble_eq_true rfl) rfl ?_
      exact c_sub [1, 2, 0] rfl (hJ 1 [.ref x0, .int x1, .int 0])
  · exact c_no
theorem pX11_done_1 {Γ : CT} (hC : Ctx Γ "SpiritWallModel" cX11_done 3 (some .int) rmX11_done) (hnt : NT Γ) (J : JT) (hJ : ∀ L a, Cor Γ 3 (lX11_done L a).1 (lX11_done L a).2.1 (lX11_done L a).2.2.1 (lX11_done L a).2.2.2.1 (lX11_done L a).2.2.2.2 (J L a)) (a : List Value) : Cor Γ 3 0 0 11 (List.zip [0, 1, 2] a) [] (bX11_done_1 J a) := by
  unfold bX11_done_1
  split
  · rename_i x0 x1 x2
    refine c_sub [0, 1, 2] rfl (loc' := [(0, .ref x0), (1, .int x1), (2, .int x2)]) ?_
    refine q_iload_n hC 2 dX11_done_11 rfl rfl ?_
    refine q_sipush hC (v := 2772) dX11_done_12 rfl ?_
    refine q_ic_ge hC 40 dX11_done_15 rfl ?_ ?_
    · refine q_aload_n hC 0 dX11_done_40 rfl rfl ?_
      refine q_aload_n hC 0 dX11_done_41 rfl rfl ?_
      refine q_getI hC (by decide) (by decide) rfl w_837 dX11_done_42 (fun v1 => ?_)
      refine q_iconst hC dX11_done_45 rfl ?_
      refine q_isub hC dX11_done_46 ?_
      refine q_putI hC (by decide) (by decide) rfl rfl w_837 dX11_done_47 ?_
      refine q_iconst hC dX11_done_50 rfl ?_
      refine q_istore_nA hC (loc' := [(2, .int 0), (0, .ref x0), (1, .int x1)]) dX11_done_51 rfl (Nat.le_of_ble_eq_true rfl) rfl ?_
      exact c_sub [1, 2, 0] rfl (hJ 2 [.ref x0, .int x1, .int 0])
    · refine q_aload_n hC 0 dX11_done_18 rfl rfl ?_
      refine q_getR hC (by decide) (by decide) rfl w_814 dX11_done_19 (fun r2 => ?_)
      refine q_iload_n hC 2 dX11_done_22 rfl rfl ?_
      refine q_aload_n hC 0 dX11_done_23 rfl rfl ?_
      refine q_getR hC (by decide) (by decide) rfl w_814 dX11_done_24 (fun r3 => ?_)
      refine q_iload_n hC 2 dX11_done_27 rfl rfl ?_
      refine q_sipush hC (v := 308) dX11_done_28 rfl ?_
      refine q_iadd hC dX11_done_31 ?_
      refine q_iald hC dX11_done_32 (fun v4 => ?_)
      refine q_iast hC dX11_done_33 ?_
      refine q_iincA hC (loc' := [(2, .int (x2 + 1)), (0, .ref x0), (1, .int x1)]) 2 1 dX11_done_34 rfl rfl (Nat.le_of_ble_eq_true rfl) rfl ?_
      refine q_goto hC 11 dX11_done_37 rfl ?_
      exact c_sub [1, 2, 0] rfl (hJ 1 [.ref x0, .int x1, .int (x2 + 1)])
  · exact c_no
theorem pX11_done_2 {Γ : CT} (hC : Ctx Γ "SpiritWallModel" cX11_done 3 (some .int) rmX11_done) (hnt : NT Γ) (J : JT) (hJ : ∀ L a, Cor Γ 3 (lX11_done L a).1 (lX11_done L a).2.1 (lX11_done L a).2.2.1 (lX11_done L a).2.2.2.1 (lX11_done L a).2.2.2.2 (J L a)) (a : List Value) : Cor Γ 3 0 0 52 (List.zip [0, 1, 2] a) [] (bX11_done_2 J a) := by
  unfold bX11_done_2
  split
  · rename_i x0 x1 x2
    refine c_sub [0, 1, 2] rfl (loc' := [(0, .ref x0), (1, .int x1), (2, .int x2)]) ?_
    refine q_iload_n hC 2 dX11_done_52 rfl rfl ?_
    refine q_sipush hC (v := 308) dX11_done_53 rfl ?_
    refine q_ic_ge hC 86 dX11_done_56 rfl ?_ ?_
    · refine q_aload_n hC 0 dX11_done_86 rfl rfl ?_
      refine q_aload_n hC 0 dX11_done_87 rfl rfl ?_
      refine q_getI hC (by decide) (by decide) rfl w_837 dX11_done_88 (fun v1 => ?_)
      refine q_iconst hC dX11_done_91 rfl ?_
      refine q_iadd hC dX11_done_92 ?_
      refine q_putI hC (by decide) (by decide) rfl rfl w_837 dX11_done_93 ?_
      refine q_iload_n hC 1 dX11_done_96 rfl rfl ?_
      exact q_iret hC dX11_done_97 (Nat.le_of_ble_eq_true rfl) (Nat.le_of_ble_eq_true rfl)
    · refine q_aload_n hC 0 dX11_done_59 rfl rfl ?_
      refine q_getR hC (by decide) (by decide) rfl w_814 dX11_done_60 (fun r2 => ?_)
      refine q_sipush hC (v := 308) dX11_done_63 rfl ?_
      refine q_aload_n hC 0 dX11_done_66 rfl rfl ?_
      refine q_getI hC (by decide) (by decide) rfl w_837 dX11_done_67 (fun v3 => ?_)
      refine q_imul hC dX11_done_70 ?_
      refine q_iload_n hC 2 dX11_done_71 rfl rfl ?_
      refine q_iadd hC dX11_done_72 ?_
      refine q_aload_n hC 0 dX11_done_73 rfl rfl ?_
      refine q_getR hC (by decide) (by decide) rfl w_810 dX11_done_74 (fun r4 => ?_)
      refine q_iload_n hC 2 dX11_done_77 rfl rfl ?_
      refine q_iald hC dX11_done_78 (fun v5 => ?_)
      refine q_iast hC dX11_done_79 ?_
      refine q_iincA hC (loc' := [(2, .int (x2 + 1)), (0, .ref x0), (1, .int x1)]) 2 1 dX11_done_80 rfl rfl (Nat.le_of_ble_eq_true rfl) rfl ?_
      refine q_goto hC 52 dX11_done_83 rfl ?_
      exact c_sub [1, 2, 0] rfl (hJ 2 [.ref x0, .int x1, .int (x2 + 1)])
  · exact c_no
theorem sX11_done : Snd yX11_done (.code yX11_done cX11_done 3 (some .int)) rmX11_done SX11_done := by
  refine Snd.of lX11_done (by decide +kernel) (fun _ => rfl) ?_
  intro Γ hC hnt hnm J hJ L a
  match L with
  | 0 => exact pX11_done_0 hC hnt J hJ a
  | 1 => exact pX11_done_1 hC hnt J hJ a
  | 2 => exact pX11_done_2 hC hnt J hJ a
  | L + 3 => exact c_no
/-! SpiritWallModel.undo()I -/
theorem dX11_undo_0 : decode cX11_undo 0 = .ok (.aload_n 0, 1) := by decide +kernel
theorem dX11_undo_1 : decode cX11_undo 1 = .ok (.aload_n 0, 1) := by decide +kernel
theorem dX11_undo_2 : decode cX11_undo 2 = .ok (.getfield 74, 3) := by decide +kernel
theorem dX11_undo_5 : decode cX11_undo 5 = .ok (.ifCond .le 7, 3) := by decide +kernel
theorem dX11_undo_8 : decode cX11_undo 8 = .ok (.iconst 1, 1) := by decide +kernel
theorem dX11_undo_9 : decode cX11_undo 9 = .ok (.goto 4, 3) := by decide +kernel
theorem dX11_undo_12 : decode cX11_undo 12 = .ok (.iconst 0, 1) := by decide +kernel
theorem dX11_undo_13 : decode cX11_undo 13 = .ok (.invokevirtual 77, 3) := by decide +kernel
theorem dX11_undo_16 : decode cX11_undo 16 = .ok (.ifCond .ne 5, 3) := by decide +kernel
theorem dX11_undo_19 : decode cX11_undo 19 = .ok (.iconst 0, 1) := by decide +kernel
theorem dX11_undo_20 : decode cX11_undo 20 = .ok (.ireturn, 1) := by decide +kernel
theorem dX11_undo_21 : decode cX11_undo 21 = .ok (.aload_n 0, 1) := by decide +kernel
theorem dX11_undo_22 : decode cX11_undo 22 = .ok (.aload_n 0, 1) := by decide +kernel
theorem dX11_undo_23 : decode cX11_undo 23 = .ok (.getfield 74, 3) := by decide +kernel
theorem dX11_undo_26 : decode cX11_undo 26 = .ok (.iconst 1, 1) := by decide +kernel
theorem dX11_undo_27 : decode cX11_undo 27 = .ok (.isub, 1) := by decide +kernel
theorem dX11_undo_28 : decode cX11_undo 28 = .ok (.putfield 74, 3) := by decide +kernel
theorem dX11_undo_31 : decode cX11_undo 31 = .ok (.iconst 0, 1) := by decide +kernel
theorem dX11_undo_32 : decode cX11_undo 32 = .ok (.istore_n 1, 1) := by decide +kernel
theorem dX11_undo_33 : decode cX11_undo 33 = .ok (.iload_n 1, 1) := by decide +kernel
theorem dX11_undo_34 : decode cX11_undo 34 = .ok (.sipush 308, 3) := by decide +kernel
theorem dX11_undo_37 : decode cX11_undo 37 = .ok (.if_icmp .ge 30, 3) := by decide +kernel
theorem dX11_undo_40 : decode cX11_undo 40 = .ok (.aload_n 0, 1) := by decide +kernel
theorem dX11_undo_41 : decode cX11_undo 41 = .ok (.getfield 7, 3) := by decide +kernel
theorem dX11_undo_44 : decode cX11_undo 44 = .ok (.iload_n 1, 1) := by decide +kernel
theorem dX11_undo_45 : decode cX11_undo 45 = .ok (.aload_n 0, 1) := by decide +kernel
theorem dX11_undo_46 : decode cX11_undo 46 = .ok (.getfield 25, 3) := by decide +kernel
theorem dX11_undo_49 : decode cX11_undo 49 = .ok (.sipush 308, 3) := by decide +kernel
theorem dX11_undo_52 : decode cX11_undo 52 = .ok (.aload_n 0, 1) := by decide +kernel
theorem dX11_undo_53 : decode cX11_undo 53 = .ok (.getfield 74, 3) := by decide +kernel
theorem dX11_undo_56 : decode cX11_undo 56 = .ok (.imul, 1) := by decide +kernel
theorem dX11_undo_57 : decode cX11_undo 57 = .ok (.iload_n 1, 1) := by decide +kernel
theorem dX11_undo_58 : decode cX11_undo 58 = .ok (.iadd, 1) := by decide +kernel
theorem dX11_undo_59 : decode cX11_undo 59 = .ok (.iaload, 1) := by decide +kernel
theorem dX11_undo_60 : decode cX11_undo 60 = .ok (.iastore, 1) := by decide +kernel
theorem dX11_undo_61 : decode cX11_undo 61 = .ok (.iinc 1 1, 3) := by decide +kernel
theorem dX11_undo_64 : decode cX11_undo 64 = .ok (.goto (-31), 3) := by decide +kernel
theorem dX11_undo_67 : decode cX11_undo 67 = .ok (.aload_n 0, 1) := by decide +kernel
theorem dX11_undo_68 : decode cX11_undo 68 = .ok (.getfield 74, 3) := by decide +kernel
theorem dX11_undo_71 : decode cX11_undo 71 = .ok (.ireturn, 1) := by decide +kernel
def rmX11_undo : Room := rmk 7 0 0 171
theorem nX11_undo : nameOk yX11_undo 0 = true := by decide +kernel
def bX11_undo_0 (J : JT) : List Value → Sem
  | [.ref x0] =>
    gI 11 7 x0 fun v1 =>
    br (v1 ≤ 0)
    (ob 11 x0 (cI SX11_is [.ref x0, .int 0] fun v2 =>
    br (v2 = 0)
    (rI 0)
    (gI 11 7 x0 fun v3 =>
    pI 11 7 x0 (v3 - 1) <|
    J 1 [.ref x0, .int 0])))
    (ob 11 x0 (cI SX11_is [.ref x0, .int 1] fun v4 =>
    br (v4 = 0)
    (rI 0)
    (gI 11 7 x0 fun v5 =>
    pI 11 7 x0 (v5 - 1) <|
    J 1 [.ref x0, .int 0])))
  | _ => no
def bX11_undo_1 (J : JT) : List Value → Sem
  | [.ref x0, .int x1] =>
    br ((308 : Int32) ≤ x1)
    (gI 11 7 x0 fun v1 =>
    rI v1)
    (gR 11 1 x0 fun r2 =>
    gR 11 6 x0 fun r3 =>
    gI 11 7 x0 fun v4 =>
    aI r3 ((308 * v4) + x1) fun v5 =>
    sA r2 x1 v5 <|
    J 1 [.ref x0, .int (x1 + 1)])
  | _ => no
def bX11_undo (J : JT) : JT := fun L a => match L with
  | 0 => bX11_undo_0 J a
  | 1 => bX11_undo_1 J a
  | _ => no
def SX11_undo : ST := mk 2 bX11_undo
def lX11_undo (L : Nat) (a : List Value) : Nat × Nat × Nat × List (Nat × Value) × List Value := match L with
  | 0 => (0, 0, 0, lv_args 0 a, [])
  | 1 => (0, 0, 33, List.zip [0, 1] a, [])
  | _ => (0, 0, 0, [], [])
theorem pX11_undo_0 {Γ : CT} (hC : Ctx Γ "SpiritWallModel" cX11_undo 2 (some .int) rmX11_undo) (hnt : NT Γ) (J : JT) (hJ : ∀ L a, Cor Γ 2 (lX11_undo L a).1 (lX11_undo L a).2.1 (lX11_undo L a).2.2.1 (lX11_undo L a).2.2.2.1 (lX11_undo L a).2.2.2.2 (J L a)) (a : List Value) : Cor Γ 2 0 0 0 (lv_args 0 a) [] (bX11_undo_0 J a) := by
  unfold bX11_undo_0
  split
  · rename_i x0
    refine c_sub [0] rfl (loc' := [(0, .ref x0)]) ?_
    refine q_aload_n hC 0 dX11_undo_0 rfl rfl ?_
    refine q_aload_n hC 0 dX11_undo_1 rfl rfl ?_
    refine q_getI hC (by decide) (by decide) rfl w_837 dX11_undo_2 (fun v1 => ?_)
    refine q_if_le hC 12 dX11_undo_5 rfl ?_ ?_
    · refine q_iconst hC dX11_undo_12 rfl ?_
      refine q_cVI hC hnt (stk := []) (as := [.int 0]) sX11_is (ci := 11) (by decide) rfl nX11_is rfl w_838 w_840 w_841 w_830 w_839 (Nat.le_of_ble_eq_true rfl) dX11_undo_13 rfl (fun v2 => ?_)
      refine q_if_ne hC 21 dX11_undo_16 rfl ?_ ?_
      · refine q_aload_n hC 0 dX11_undo_21 rfl rfl ?_
        refine q_aload_n hC 0 dX11_undo_22 rfl rfl ?_
        refine q_getI hC (by decide) (by decide) rfl w_837 dX11_undo_23 (fun v3 => ?_)
        refine q_iconst hC dX11_undo_26 rfl ?_
        refine q_isub hC dX11_undo_27 ?_
        refine q_putI hC (by decide) (by decide) rfl rfl w_837 dX11_undo_28 ?_
        refine q_iconst hC dX11_undo_31 rfl ?_
        refine q_istore_nA hC (loc' := [(1, .int 0), (0, .ref x0)]) dX11_undo_32 rfl (Nat.le_of_ble_eq_true rfl) rfl ?_
        exact c_sub [1, 0] rfl (hJ 1 [.ref x0, .int 0])
      · refine q_iconst hC dX11_undo_19 rfl ?_
        exact q_iret hC dX11_undo_20 (Nat.le_of_ble_eq_true rfl) (Nat.le_of_ble_eq_true rfl)
    · refine q_iconst hC dX11_undo_8 rfl ?_
      refine q_goto hC 13 dX11_undo_9 rfl ?_
      refine q_cVI hC hnt (stk := []) (as := [.int 1]) sX11_is (ci := 11) (by decide) rfl nX11_is rfl w_838 w_840 w_841 w_830 w_839 (Nat.le_of_ble_eq_true rfl) dX11_undo_13 rfl (fun v4 => ?_)
      refine q_if_ne hC 21 dX11_undo_16 rfl ?_ ?_
      · refine q_aload_n hC 0 dX11_undo_21 rfl rfl ?_
        refine q_aload_n hC 0 dX11_undo_22 rfl rfl ?_
        refine q_getI hC (by decide) (by decide) rfl w_837 dX11_undo_23 (fun v5 => ?_)
        refine q_iconst hC dX11_undo_26 rfl ?_
        refine q_isub hC dX11_undo_27 ?_
        refine q_putI hC (by decide) (by decide) rfl rfl w_837 dX11_undo_28 ?_
        refine q_iconst hC dX11_undo_31 rfl ?_
        refine q_istore_nA hC (loc' := [(1, .int 0), (0, .ref x0)]) dX11_undo_32 rfl (Nat.le_of_ble_eq_true rfl) rfl ?_
        exact c_sub [1, 0] rfl (hJ 1 [.ref x0, .int 0])
      · refine q_iconst hC dX11_undo_19 rfl ?_
        exact q_iret hC dX11_undo_20 (Nat.le_of_ble_eq_true rfl) (Nat.le_of_ble_eq_true rfl)
  · exact c_no
theorem pX11_undo_1 {Γ : CT} (hC : Ctx Γ "SpiritWallModel" cX11_undo 2 (some .int) rmX11_undo) (hnt : NT Γ) (J : JT) (hJ : ∀ L a, Cor Γ 2 (lX11_undo L a).1 (lX11_undo L a).2.1 (lX11_undo L a).2.2.1 (lX11_undo L a).2.2.2.1 (lX11_undo L a).2.2.2.2 (J L a)) (a : List Value) : Cor Γ 2 0 0 33 (List.zip [0, 1] a) [] (bX11_undo_1 J a) := by
  unfold bX11_undo_1
  split
  · rename_i x0 x1
    refine c_sub [0, 1] rfl (loc' := [(0, .ref x0), (1, .int x1)]) ?_
    refine q_iload_n hC 1 dX11_undo_33 rfl rfl ?_
    refine q_sipush hC (v := 308) dX11_undo_34 rfl ?_
    refine q_ic_ge hC 67 dX11_undo_37 rfl ?_ ?_
    · refine q_aload_n hC 0 dX11_undo_67 rfl rfl ?_
      refine q_getI hC (by decide) (by decide) rfl w_837 dX11_undo_68 (fun v1 => ?_)
      exact q_iret hC dX11_undo_71 (Nat.le_of_ble_eq_true rfl) (Nat.le_of_ble_eq_true rfl)
    · refine q_aload_n hC 0 dX11_undo_40 rfl rfl ?_
      refine q_getR hC (by decide) (by decide) rfl w_808 dX11_undo_41 (fun r2 => ?_)
      refine q_iload_n hC 1 dX11_undo_44 rfl rfl ?_
      refine q_aload_n hC 0 dX11_undo_45 rfl rfl ?_
      refine q_getR hC (by decide) (by decide) rfl w_814 dX11_undo_46 (fun r3 => ?_)
      refine q_sipush hC (v := 308) dX11_undo_49 rfl ?_
      refine q_aload_n hC 0 dX11_undo_52 rfl rfl ?_
      refine q_getI hC (by decide) (by decide) rfl w_837 dX11_undo_53 (fun v4 => ?_)
      refine q_imul hC dX11_undo_56 ?_
      refine q_iload_n hC 1 dX11_undo_57 rfl rfl ?_
      refine q_iadd hC dX11_undo_58 ?_
      refine q_iald hC dX11_undo_59 (fun v5 => ?_)
      refine q_iast hC dX11_undo_60 ?_
      refine q_iincA hC (loc' := [(1, .int (x1 + 1)), (0, .ref x0)]) 1 1 dX11_undo_61 rfl rfl (Nat.le_of_ble_eq_true rfl) rfl ?_
      refine q_goto hC 33 dX11_undo_64 rfl ?_
      exact c_sub [1, 0] rfl (hJ 1 [.ref x0, .int (x1 + 1)])
  · exact c_no
theorem sX11_undo : Snd yX11_undo (.code yX11_undo cX11_undo 2 (some .int)) rmX11_undo SX11_undo := by
  refine Snd.of lX11_undo (by decide +kernel) (fun _ => rfl) ?_
  intro Γ hC hnt hnm J hJ L a
  match L with
  | 0 => exact pX11_undo_0 hC hnt J hJ a
  | 1 => exact pX11_undo_1 hC hnt J hJ a
  | L + 2 => exact c_no
/-! SpiritWallModel.saveState()I -/
theorem dX11_saveState_0 : decode cX11_saveState 0 = .ok (.aload_n 0, 1) := by decide +kernel
theorem dX11_saveState_1 : decode cX11_saveState 1 = .ok (.iconst 0, 1) := by decide +kernel
theorem dX11_saveState_2 : decode cX11_saveState 2 = .ok (.putfield 67, 3) := by decide +kernel
theorem dX11_saveState_5 : decode cX11_saveState 5 = .ok (.aload_n 0, 1) := by decide +kernel
theorem dX11_saveState_6 : decode cX11_saveState 6 = .ok (.getfield 7, 3) := by decide +kernel
theorem dX11_saveState_9 : decode cX11_saveState 9 = .ok (.aload_n 0, 1) := by decide +kernel
theorem dX11_saveState_10 : decode cX11_saveState 10 = .ok (.getfield 22, 3) := by decide +kernel
theorem dX11_saveState_13 : decode cX11_saveState 13 = .ok (.invokestatic 70, 3) := by decide +kernel
theorem dX11_saveState_16 : decode cX11_saveState 16 = .ok (.aload_n 0, 1) := by decide +kernel
theorem dX11_saveState_17 : decode cX11_saveState 17 = .ok (.iconst 1, 1) := by decide +kernel
theorem dX11_saveState_18 : decode cX11_saveState 18 = .ok (.putfield 81, 3) := by decide +kernel
theorem dX11_saveState_21 : decode cX11_saveState 21 = .ok (.aload_n 0, 1) := by decide +kernel
theorem dX11_saveState_22 : decode cX11_saveState 22 = .ok (.getfield 7, 3) := by decide +kernel
theorem dX11_saveState_25 : decode cX11_saveState 25 = .ok (.iconst 1, 1) := by decide +kernel
theorem dX11_saveState_26 : decode cX11_saveState 26 = .ok (.iaload, 1) := by decide +kernel
theorem dX11_saveState_27 : decode cX11_saveState 27 = .ok (.ireturn, 1) := by decide +kernel
def rmX11_saveState : Room := rmk 7 0 0 172
theorem nX11_saveState : nameOk yX11_saveState 0 = true := by decide +kernel
def bX11_saveState_0 (J : JT) : List Value → Sem
  | [.ref x0] =>
    pI 11 0 x0 0 <|
    gR 11 1 x0 fun r1 =>
    gR 11 5 x0 fun r2 =>
    cV SX11_copies [.ref r1, .ref r2] <|
    pZ 11 8 x0 1 <|
    gR 11 1 x0 fun r3 =>
    aI r3 1 fun v4 =>
    rI v4
  | _ => no
def bX11_saveState (J : JT) : JT := fun L a => match L with
  | 0 => bX11_saveState_0 J a
  | _ => no
def SX11_saveState : ST := mk 1 bX11_saveState
def lX11_saveState (L : Nat) (a : List Value) : Nat × Nat × Nat × List (Nat × Value) × List Value := match L with
  | 0 => (0, 0, 0, lv_args 0 a, [])
  | _ => (0, 0, 0, [], [])
theorem pX11_saveState_0 {Γ : CT} (hC : Ctx Γ "SpiritWallModel" cX11_saveState 1 (some .int) rmX11_saveState) (hnt : NT Γ) (J : JT) (hJ : ∀ L a, Cor Γ 1 (lX11_saveState L a).1 (lX11_saveState L a).2.1 (lX11_saveState L a).2.2.1 (lX11_saveState L a).2.2.2.1 (lX11_saveState L a).2.2.2.2 (J L a)) (a : List Value) : Cor Γ 1 0 0 0 (lv_args 0 a) [] (bX11_saveState_0 J a) := by
  unfold bX11_saveState_0
  split
  · rename_i x0
    refine c_sub [0] rfl (loc' := [(0, .ref x0)]) ?_
    refine q_aload_n hC 0 dX11_saveState_0 rfl rfl ?_
    refine q_iconst hC dX11_saveState_1 rfl ?_
    refine q_putI hC (by decide) (by decide) rfl rfl w_833 dX11_saveState_2 ?_
    refine q_aload_n hC 0 dX11_saveState_5 rfl rfl ?_
    refine q_getR hC (by decide) (by decide) rfl w_808 dX11_saveState_6 (fun r1 => ?_)
    refine q_aload_n hC 0 dX11_saveState_9 rfl rfl ?_
    refine q_getR hC (by decide) (by decide) rfl w_813 dX11_saveState_10 (fun r2 => ?_)
    refine q_cSV hC hnt (stk := []) (as := [.ref r1, .ref r2]) sX11_copies nX11_copies rfl w_834 w_836 w_830 w_835 (Nat.le_of_ble_eq_true rfl) dX11_saveState_13 rfl ?_
    refine q_aload_n hC 0 dX11_saveState_16 rfl rfl ?_
    refine q_iconst hC dX11_saveState_17 rfl ?_
    refine q_putZ hC (by decide) (by decide) rfl rfl w_842 dX11_saveState_18 ?_
    refine q_aload_n hC 0 dX11_saveState_21 rfl rfl ?_
    refine q_getR hC (by decide) (by decide) rfl w_808 dX11_saveState_22 (fun r3 => ?_)
    refine q_iconst hC dX11_saveState_25 rfl ?_
    refine q_iald hC dX11_saveState_26 (fun v4 => ?_)
    exact q_iret hC dX11_saveState_27 (Nat.le_of_ble_eq_true rfl) (Nat.le_of_ble_eq_true rfl)
  · exact c_no
theorem sX11_saveState : Snd yX11_saveState (.code yX11_saveState cX11_saveState 1 (some .int)) rmX11_saveState SX11_saveState := by
  refine Snd.of lX11_saveState (by decide +kernel) (fun _ => rfl) ?_
  intro Γ hC hnt hnm J hJ L a
  match L with
  | 0 => exact pX11_saveState_0 hC hnt J hJ a
  | L + 1 => exact c_no
/-! SpiritWallModel.restoreState()I -/
theorem dX11_restoreState_0 : decode cX11_restoreState 0 = .ok (.aload_n 0, 1) := by decide +kernel
theorem dX11_restoreState_1 : decode cX11_restoreState 1 = .ok (.aload_n 0, 1) := by decide +kernel
theorem dX11_restoreState_2 : decode cX11_restoreState 2 = .ok (.getfield 81, 3) := by decide +kernel
theorem dX11_restoreState_5 : decode cX11_restoreState 5 = .ok (.invokevirtual 77, 3) := by decide +kernel
theorem dX11_restoreState_8 : decode cX11_restoreState 8 = .ok (.ifCond .ne 5, 3) := by decide +kernel
theorem dX11_restoreState_11 : decode cX11_restoreState 11 = .ok (.iconst 0, 1) := by decide +kernel
theorem dX11_restoreState_12 : decode cX11_restoreState 12 = .ok (.ireturn, 1) := by decide +kernel
theorem dX11_restoreState_13 : decode cX11_restoreState 13 = .ok (.aload_n 0, 1) := by decide +kernel
theorem dX11_restoreState_14 : decode cX11_restoreState 14 = .ok (.getfield 22, 3) := by decide +kernel
theorem dX11_restoreState_17 : decode cX11_restoreState 17 = .ok (.aload_n 0, 1) := by decide +kernel
theorem dX11_restoreState_18 : decode cX11_restoreState 18 = .ok (.getfield 7, 3) := by decide +kernel
theorem dX11_restoreState_21 : decode cX11_restoreState 21 = .ok (.invokestatic 70, 3) := by decide +kernel
theorem dX11_restoreState_24 : decode cX11_restoreState 24 = .ok (.aload_n 0, 1) := by decide +kernel
theorem dX11_restoreState_25 : decode cX11_restoreState 25 = .ok (.iconst 0, 1) := by decide +kernel
theorem dX11_restoreState_26 : decode cX11_restoreState 26 = .ok (.putfield 74, 3) := by decide +kernel
theorem dX11_restoreState_29 : decode cX11_restoreState 29 = .ok (.aload_n 0, 1) := by decide +kernel
theorem dX11_restoreState_30 : decode cX11_restoreState 30 = .ok (.getfield 7, 3) := by decide +kernel
theorem dX11_restoreState_33 : decode cX11_restoreState 33 = .ok (.iconst 1, 1) := by decide +kernel
theorem dX11_restoreState_34 : decode cX11_restoreState 34 = .ok (.iaload, 1) := by decide +kernel
theorem dX11_restoreState_35 : decode cX11_restoreState 35 = .ok (.ireturn, 1) := by decide +kernel
def rmX11_restoreState : Room := rmk 7 0 0 172
theorem nX11_restoreState : nameOk yX11_restoreState 0 = true := by decide +kernel
def bX11_restoreState_0 (J : JT) : List Value → Sem
  | [.ref x0] =>
    gI 11 8 x0 fun v1 =>
    ob 11 x0 (cI SX11_is [.ref x0, .int v1] fun v2 =>
    br (v2 = 0)
    (rI 0)
    (gR 11 5 x0 fun r3 =>
    gR 11 1 x0 fun r4 =>
    cV SX11_copies [.ref r3, .ref r4] <|
    pI 11 7 x0 0 <|
    gR 11 1 x0 fun r5 =>
    aI r5 1 fun v6 =>
    rI v6))
  | _ => no
def bX11_restoreState (J : JT) : JT := fun L a => match L with
  | 0 => bX11_restoreState_0 J a
  | _ => no
def SX11_restoreState : ST := mk 1 bX11_restoreState
def lX11_restoreState (L : Nat) (a : List Value) : Nat × Nat × Nat × List (Nat × Value) × List Value := match L with
  | 0 => (0, 0, 0, lv_args 0 a, [])
  | _ => (0, 0, 0, [], [])
theorem pX11_restoreState_0 {Γ : CT} (hC : Ctx Γ "SpiritWallModel" cX11_restoreState 1 (some .int) rmX11_restoreState) (hnt : NT Γ) (J : JT) (hJ : ∀ L a, Cor Γ 1 (lX11_restoreState L a).1 (lX11_restoreState L a).2.1 (lX11_restoreState L a).2.2.1 (lX11_restoreState L a).2.2.2.1 (lX11_restoreState L a).2.2.2.2 (J L a)) (a : List Value) : Cor Γ 1 0 0 0 (lv_args 0 a) [] (bX11_restoreState_0 J a) := by
  unfold bX11_restoreState_0
  split
  · rename_i x0
    refine c_sub [0] rfl (loc' := [(0, .ref x0)]) ?_
    refine q_aload_n hC 0 dX11_restoreState_0 rfl rfl ?_
    refine q_aload_n hC 0 dX11_restoreState_1 rfl rfl ?_
    refine q_getI hC (by decide) (by decide) rfl w_842 dX11_restoreState_2 (fun v1 => ?_)
    refine q_cVI hC hnt (stk := []) (as := [.int v1]) sX11_is (ci := 11) (by decide) rfl nX11_is rfl w_838 w_840 w_841 w_830 w_839 (Nat.le_of_ble_eq_true rfl) dX11_restoreState_5 rfl (fun v2 => ?_)
    refine q_if_ne hC 13 dX11_restoreState_8 rfl ?_ ?_
    · refine q_aload_n hC 0 dX11_restoreState_13 rfl rfl ?_
      refine q_getR hC (by decide) (by decide) rfl w_813 dX11_restoreState_14 (fun r3 => ?_)
      refine q_aload_n hC 0 dX11_restoreState_17 rfl rfl ?_
      refine q_getR hC (by decide) (by decide) rfl w_808 dX11_restoreState_18 (fun r4 => ?_)
      refine q_cSV hC hnt (stk := []) (as := [.ref r3, .ref r4]) sX11_copies nX11_copies rfl w_834 w_836 w_830 w_835 (Nat.le_of_ble_eq_true rfl) dX11_restoreState_21 rfl ?_
      refine q_aload_n hC 0 dX11_restoreState_24 rfl rfl ?_
      refine q_iconst hC dX11_restoreState_25 rfl ?_
      refine q_putI hC (by decide) (by decide) rfl rfl w_837 dX11_restoreState_26 ?_
      refine q_aload_n hC 0 dX11_restoreState_29 rfl rfl ?_
      refine q_getR hC (by decide) (by decide) rfl w_808 dX11_restoreState_30 (fun r5 => ?_)
      refine q_iconst hC dX11_restoreState_33 rfl ?_
      refine q_iald hC dX11_restoreState_34 (fun v6 => ?_)
      exact q_iret hC dX11_restoreState_35 (Nat.le_of_ble_eq_true rfl) (Nat.le_of_ble_eq_true rfl)
    · refine q_iconst hC dX11_restoreState_11 rfl ?_
      exact q_iret hC dX11_restoreState_12 (Nat.le_of_ble_eq_true rfl) (Nat.le_of_ble_eq_true rfl)
  · exact c_no
theorem sX11_restoreState : Snd yX11_restoreState (.code yX11_restoreState cX11_restoreState 1 (some .int)) rmX11_restoreState SX11_restoreState := by
  refine Snd.of lX11_restoreState (by decide +kernel) (fun _ => rfl) ?_
  intro Γ hC hnt hnm J hJ L a
  match L with
  | 0 => exact pX11_restoreState_0 hC hnt J hJ a
  | L + 1 => exact c_no
/-! SpiritWallModel.tries()V -/
theorem dX11_tries_0 : decode cX11_tries 0 = .ok (.aload_n 0, 1) := by decide +kernel
theorem dX11_tries_1 : decode cX11_tries 1 = .ok (.getfield 7, 3) := by decide +kernel
theorem dX11_tries_4 : decode cX11_tries 4 = .ok (.aload_n 0, 1) := by decide +kernel
theorem dX11_tries_5 : decode cX11_tries 5 = .ok (.getfield 16, 3) := by decide +kernel
theorem dX11_tries_8 : decode cX11_tries 8 = .ok (.invokestatic 70, 3) := by decide +kernel
theorem dX11_tries_11 : decode cX11_tries 11 = .ok (.return_, 1) := by decide +kernel
def rmX11_tries : Room := rmk 7 0 0 172
theorem nX11_tries : nameOk yX11_tries 0 = true := by decide +kernel
def bX11_tries_0 (J : JT) : List Value → Sem
  | [.ref x0] =>
    gR 11 1 x0 fun r1 =>
    gR 11 3 x0 fun r2 =>
    cV SX11_copies [.ref r1, .ref r2] <|
    rV
  | _ => no
def bX11_tries (J : JT) : JT := fun L a => match L with
  | 0 => bX11_tries_0 J a
  | _ => no
def SX11_tries : ST := mk 1 bX11_tries
def lX11_tries (L : Nat) (a : List Value) : Nat × Nat × Nat × List (Nat × Value) × List Value := match L with
  | 0 => (0, 0, 0, lv_args 0 a, [])
  | _ => (0, 0, 0, [], [])
theorem pX11_tries_0 {Γ : CT} (hC : Ctx Γ "SpiritWallModel" cX11_tries 1 none rmX11_tries) (hnt : NT Γ) (J : JT) (hJ : ∀ L a, Cor Γ 1 (lX11_tries L a).1 (lX11_tries L a).2.1 (lX11_tries L a).2.2.1 (lX11_tries L a).2.2.2.1 (lX11_tries L a).2.2.2.2 (J L a)) (a : List Value) : Cor Γ 1 0 0 0 (lv_args 0 a) [] (bX11_tries_0 J a) := by
  unfold bX11_tries_0
  split
  · rename_i x0
    refine c_sub [0] rfl (loc' := [(0, .ref x0)]) ?_
    refine q_aload_n hC 0 dX11_tries_0 rfl rfl ?_
    refine q_getR hC (by decide) (by decide) rfl w_808 dX11_tries_1 (fun r1 => ?_)
    refine q_aload_n hC 0 dX11_tries_4 rfl rfl ?_
    refine q_getR hC (by decide) (by decide) rfl w_811 dX11_tries_5 (fun r2 => ?_)
    refine q_cSV hC hnt (stk := []) (as := [.ref r1, .ref r2]) sX11_copies nX11_copies rfl w_834 w_836 w_830 w_835 (Nat.le_of_ble_eq_true rfl) dX11_tries_8 rfl ?_
    exact q_vret hC dX11_tries_11 (Nat.le_of_ble_eq_true rfl) (Nat.le_of_ble_eq_true rfl)
  · exact c_no
theorem sX11_tries : Snd yX11_tries (.code yX11_tries cX11_tries 1 none) rmX11_tries SX11_tries := by
  refine Snd.of lX11_tries (by decide +kernel) (fun _ => rfl) ?_
  intro Γ hC hnt hnm J hJ L a
  match L with
  | 0 => exact pX11_tries_0 hC hnt J hJ a
  | L + 1 => exact c_no
/-! SpiritWallModel.laysBack()V -/
theorem dX11_laysBack_0 : decode cX11_laysBack 0 = .ok (.aload_n 0, 1) := by decide +kernel
theorem dX11_laysBack_1 : decode cX11_laysBack 1 = .ok (.getfield 16, 3) := by decide +kernel
theorem dX11_laysBack_4 : decode cX11_laysBack 4 = .ok (.aload_n 0, 1) := by decide +kernel
theorem dX11_laysBack_5 : decode cX11_laysBack 5 = .ok (.getfield 7, 3) := by decide +kernel
theorem dX11_laysBack_8 : decode cX11_laysBack 8 = .ok (.invokestatic 70, 3) := by decide +kernel
theorem dX11_laysBack_11 : decode cX11_laysBack 11 = .ok (.return_, 1) := by decide +kernel
def rmX11_laysBack : Room := rmk 7 0 0 172
theorem nX11_laysBack : nameOk yX11_laysBack 0 = true := by decide +kernel
def bX11_laysBack_0 (J : JT) : List Value → Sem
  | [.ref x0] =>
    gR 11 3 x0 fun r1 =>
    gR 11 1 x0 fun r2 =>
    cV SX11_copies [.ref r1, .ref r2] <|
    rV
  | _ => no
def bX11_laysBack (J : JT) : JT := fun L a => match L with
  | 0 => bX11_laysBack_0 J a
  | _ => no
def SX11_laysBack : ST := mk 1 bX11_laysBack
def lX11_laysBack (L : Nat) (a : List Value) : Nat × Nat × Nat × List (Nat × Value) × List Value := match L with
  | 0 => (0, 0, 0, lv_args 0 a, [])
  | _ => (0, 0, 0, [], [])
theorem pX11_laysBack_0 {Γ : CT} (hC : Ctx Γ "SpiritWallModel" cX11_laysBack 1 none rmX11_laysBack) (hnt : NT Γ) (J : JT) (hJ : ∀ L a, Cor Γ 1 (lX11_laysBack L a).1 (lX11_laysBack L a).2.1 (lX11_laysBack L a).2.2.1 (lX11_laysBack L a).2.2.2.1 (lX11_laysBack L a).2.2.2.2 (J L a)) (a : List Value) : Cor Γ 1 0 0 0 (lv_args 0 a) [] (bX11_laysBack_0 J a) := by
  unfold bX11_laysBack_0
  split
  · rename_i x0
    refine c_sub [0] rfl (loc' := [(0, .ref x0)]) ?_
    refine q_aload_n hC 0 dX11_laysBack_0 rfl rfl ?_
    refine q_getR hC (by decide) (by decide) rfl w_811 dX11_laysBack_1 (fun r1 => ?_)
    refine q_aload_n hC 0 dX11_laysBack_4 rfl rfl ?_
    refine q_getR hC (by decide) (by decide) rfl w_808 dX11_laysBack_5 (fun r2 => ?_)
    refine q_cSV hC hnt (stk := []) (as := [.ref r1, .ref r2]) sX11_copies nX11_copies rfl w_834 w_836 w_830 w_835 (Nat.le_of_ble_eq_true rfl) dX11_laysBack_8 rfl ?_
    exact q_vret hC dX11_laysBack_11 (Nat.le_of_ble_eq_true rfl) (Nat.le_of_ble_eq_true rfl)
  · exact c_no
theorem sX11_laysBack : Snd yX11_laysBack (.code yX11_laysBack cX11_laysBack 1 none) rmX11_laysBack SX11_laysBack := by
  refine Snd.of lX11_laysBack (by decide +kernel) (fun _ => rfl) ?_
  intro Γ hC hnt hnm J hJ L a
  match L with
  | 0 => exact pX11_laysBack_0 hC hnt J hJ a
  | L + 1 => exact c_no
/-! SpiritWallModel.marks()I -/
theorem dX11_marks_0 : decode cX11_marks 0 = .ok (.aload_n 0, 1) := by decide +kernel
theorem dX11_marks_1 : decode cX11_marks 1 = .ok (.getfield 7, 3) := by decide +kernel
theorem dX11_marks_4 : decode cX11_marks 4 = .ok (.iconst 0, 1) := by decide +kernel
theorem dX11_marks_5 : decode cX11_marks 5 = .ok (.iaload, 1) := by decide +kernel
theorem dX11_marks_6 : decode cX11_marks 6 = .ok (.ireturn, 1) := by decide +kernel
def rmX11_marks : Room := rmk 6 0 0 150
theorem nX11_marks : nameOk yX11_marks 0 = true := by decide +kernel
def bX11_marks_0 (J : JT) : List Value → Sem
  | [.ref x0] =>
    gR 11 1 x0 fun r1 =>
    aI r1 0 fun v2 =>
    rI v2
  | _ => no
def bX11_marks (J : JT) : JT := fun L a => match L with
  | 0 => bX11_marks_0 J a
  | _ => no
def SX11_marks : ST := mk 1 bX11_marks
def lX11_marks (L : Nat) (a : List Value) : Nat × Nat × Nat × List (Nat × Value) × List Value := match L with
  | 0 => (0, 0, 0, lv_args 0 a, [])
  | _ => (0, 0, 0, [], [])
theorem pX11_marks_0 {Γ : CT} (hC : Ctx Γ "SpiritWallModel" cX11_marks 1 (some .int) rmX11_marks) (hnt : NT Γ) (J : JT) (hJ : ∀ L a, Cor Γ 1 (lX11_marks L a).1 (lX11_marks L a).2.1 (lX11_marks L a).2.2.1 (lX11_marks L a).2.2.2.1 (lX11_marks L a).2.2.2.2 (J L a)) (a : List Value) : Cor Γ 1 0 0 0 (lv_args 0 a) [] (bX11_marks_0 J a) := by
  unfold bX11_marks_0
  split
  · rename_i x0
    refine c_sub [0] rfl (loc' := [(0, .ref x0)]) ?_
    refine q_aload_n hC 0 dX11_marks_0 rfl rfl ?_
    refine q_getR hC (by decide) (by decide) rfl w_808 dX11_marks_1 (fun r1 => ?_)
    refine q_iconst hC dX11_marks_4 rfl ?_
    refine q_iald hC dX11_marks_5 (fun v2 => ?_)
    exact q_iret hC dX11_marks_6 (Nat.le_of_ble_eq_true rfl) (Nat.le_of_ble_eq_true rfl)
  · exact c_no
theorem sX11_marks : Snd yX11_marks (.code yX11_marks cX11_marks 1 (some .int)) rmX11_marks SX11_marks := by
  refine Snd.of lX11_marks (by decide +kernel) (fun _ => rfl) ?_
  intro Γ hC hnt hnm J hJ L a
  match L with
  | 0 => exact pX11_marks_0 hC hnt J hJ a
  | L + 1 => exact c_no
/-! SpiritWallModel.sights()I -/
theorem dX11_sights_0 : decode cX11_sights 0 = .ok (.aload_n 0, 1) := by decide +kernel
theorem dX11_sights_1 : decode cX11_sights 1 = .ok (.getfield 7, 3) := by decide +kernel
theorem dX11_sights_4 : decode cX11_sights 4 = .ok (.iconst 1, 1) := by decide +kernel
theorem dX11_sights_5 : decode cX11_sights 5 = .ok (.iaload, 1) := by decide +kernel
theorem dX11_sights_6 : decode cX11_sights 6 = .ok (.ireturn, 1) := by decide +kernel
def rmX11_sights : Room := rmk 6 0 0 150
theorem nX11_sights : nameOk yX11_sights 0 = true := by decide +kernel
def bX11_sights_0 (J : JT) : List Value → Sem
  | [.ref x0] =>
    gR 11 1 x0 fun r1 =>
    aI r1 1 fun v2 =>
    rI v2
  | _ => no
def bX11_sights (J : JT) : JT := fun L a => match L with
  | 0 => bX11_sights_0 J a
  | _ => no
def SX11_sights : ST := mk 1 bX11_sights
def lX11_sights (L : Nat) (a : List Value) : Nat × Nat × Nat × List (Nat × Value) × List Value := match L with
  | 0 => (0, 0, 0, lv_args 0 a, [])
  | _ => (0, 0, 0, [], [])
theorem pX11_sights_0 {Γ : CT} (hC : Ctx Γ "SpiritWallModel" cX11_sights 1 (some .int) rmX11_sights) (hnt : NT Γ) (J : JT) (hJ : ∀ L a, Cor Γ 1 (lX11_sights L a).1 (lX11_sights L a).2.1 (lX11_sights L a).2.2.1 (lX11_sights L a).2.2.2.1 (lX11_sights L a).2.2.2.2 (J L a)) (a : List Value) : Cor Γ 1 0 0 0 (lv_args 0 a) [] (bX11_sights_0 J a) := by
  unfold bX11_sights_0
  split
  · rename_i x0
    refine c_sub [0] rfl (loc' := [(0, .ref x0)]) ?_
    refine q_aload_n hC 0 dX11_sights_0 rfl rfl ?_
    refine q_getR hC (by decide) (by decide) rfl w_808 dX11_sights_1 (fun r1 => ?_)
    refine q_iconst hC dX11_sights_4 rfl ?_
    refine q_iald hC dX11_sights_5 (fun v2 => ?_)
    exact q_iret hC dX11_sights_6 (Nat.le_of_ble_eq_true rfl) (Nat.le_of_ble_eq_true rfl)
  · exact c_no
theorem sX11_sights : Snd yX11_sights (.code yX11_sights cX11_sights 1 (some .int)) rmX11_sights SX11_sights := by
  refine Snd.of lX11_sights (by decide +kernel) (fun _ => rfl) ?_
  intro Γ hC hnt hnm J hJ L a
  match L with
  | 0 => exact pX11_sights_0 hC hnt J hJ a
  | L + 1 => exact c_no
/-! SpiritWallModel.isMark(I)Z -/
theorem dX11_isMark_0 : decode cX11_isMark 0 = .ok (.iload_n 1, 1) := by decide +kernel
theorem dX11_isMark_1 : decode cX11_isMark 1 = .ok (.i2l, 1) := by decide +kernel
theorem dX11_isMark_2 : decode cX11_isMark 2 = .ok (.lconst 0, 1) := by decide +kernel
theorem dX11_isMark_3 : decode cX11_isMark 3 = .ok (.aload_n 0, 1) := by decide +kernel
theorem dX11_isMark_4 : decode cX11_isMark 4 = .ok (.invokevirtual 85, 3) := by decide +kernel
theorem dX11_isMark_7 : decode cX11_isMark 7 = .ok (.iconst 1, 1) := by decide +kernel
theorem dX11_isMark_8 : decode cX11_isMark 8 = .ok (.isub, 1) := by decide +kernel
theorem dX11_isMark_9 : decode cX11_isMark 9 = .ok (.i2l, 1) := by decide +kernel
theorem dX11_isMark_10 : decode cX11_isMark 10 = .ok (.invokestatic 89, 3) := by decide +kernel
theorem dX11_isMark_13 : decode cX11_isMark 13 = .ok (.ireturn, 1) := by decide +kernel
def rmX11_isMark : Room := rmk 7 0 0 175
theorem nX11_isMark : nameOk yX11_isMark 1 = true := by decide +kernel
def bX11_isMark_0 (J : JT) : List Value → Sem
  | [.ref x0, .int x1] =>
    ob 11 x0 (cI SX11_marks [.ref x0] fun v1 =>
    cI SX11_isIn [.long (x1.toInt64), .long 0, .long ((v1 - 1).toInt64)] fun v2 =>
    rZ v2)
  | _ => no
def bX11_isMark (J : JT) : JT := fun L a => match L with
  | 0 => bX11_isMark_0 J a
  | _ => no
def SX11_isMark : ST := mk 2 bX11_isMark
def lX11_isMark (L : Nat) (a : List Value) : Nat × Nat × Nat × List (Nat × Value) × List Value := match L with
  | 0 => (0, 0, 0, lv_args 0 a, [])
  | _ => (0, 0, 0, [], [])
theorem pX11_isMark_0 {Γ : CT} (hC : Ctx Γ "SpiritWallModel" cX11_isMark 2 (some .boolean) rmX11_isMark) (hnt : NT Γ) (J : JT) (hJ : ∀ L a, Cor Γ 2 (lX11_isMark L a).1 (lX11_isMark L a).2.1 (lX11_isMark L a).2.2.1 (lX11_isMark L a).2.2.2.1 (lX11_isMark L a).2.2.2.2 (J L a)) (a : List Value) : Cor Γ 2 0 0 0 (lv_args 0 a) [] (bX11_isMark_0 J a) := by
  unfold bX11_isMark_0
  split
  · rename_i x0 x1
    refine c_sub [0, 1] rfl (loc' := [(0, .ref x0), (1, .int x1)]) ?_
    refine q_iload_n hC 1 dX11_isMark_0 rfl rfl ?_
    refine q_i2l hC dX11_isMark_1 ?_
    refine q_lconst hC (v := 0) dX11_isMark_2 rfl ?_
    refine q_aload_n hC 0 dX11_isMark_3 rfl rfl ?_
    refine q_cVI hC hnt (stk := [.long 0, .long (x1.toInt64)]) (as := []) sX11_marks (ci := 11) (by decide) rfl nX11_marks rfl w_843 w_845 w_846 w_830 w_844 (Nat.le_of_ble_eq_true rfl) dX11_isMark_4 rfl (fun v1 => ?_)
    refine q_iconst hC dX11_isMark_7 rfl ?_
    refine q_isub hC dX11_isMark_8 ?_
    refine q_i2l hC dX11_isMark_9 ?_
    refine q_cSI hC hnt (stk := []) (as := [.long (x1.toInt64), .long 0, .long ((v1 - 1).toInt64)]) sX11_isIn nX11_isIn rfl w_847 w_849 w_830 w_848 (Nat.le_of_ble_eq_true rfl) dX11_isMark_10 rfl (fun v2 => ?_)
    exact q_zret hC dX11_isMark_13 (Nat.le_of_ble_eq_true rfl) (Nat.le_of_ble_eq_true rfl)
  · exact c_no
theorem sX11_isMark : Snd yX11_isMark (.code yX11_isMark cX11_isMark 2 (some .boolean)) rmX11_isMark SX11_isMark := by
  refine Snd.of lX11_isMark (by decide +kernel) (fun _ => rfl) ?_
  intro Γ hC hnt hnm J hJ L a
  match L with
  | 0 => exact pX11_isMark_0 hC hnt J hJ a
  | L + 1 => exact c_no
/-! SpiritWallModel.areMarks(II)Z -/
theorem dX11_areMarks_0 : decode cX11_areMarks 0 = .ok (.aload_n 0, 1) := by decide +kernel
theorem dX11_areMarks_1 : decode cX11_areMarks 1 = .ok (.iload_n 1, 1) := by decide +kernel
theorem dX11_areMarks_2 : decode cX11_areMarks 2 = .ok (.invokevirtual 93, 3) := by decide +kernel
theorem dX11_areMarks_5 : decode cX11_areMarks 5 = .ok (.ifCond .eq 15, 3) := by decide +kernel
theorem dX11_areMarks_8 : decode cX11_areMarks 8 = .ok (.aload_n 0, 1) := by decide +kernel
theorem dX11_areMarks_9 : decode cX11_areMarks 9 = .ok (.iload_n 2, 1) := by decide +kernel
theorem dX11_areMarks_10 : decode cX11_areMarks 10 = .ok (.invokevirtual 93, 3) := by decide +kernel
theorem dX11_areMarks_13 : decode cX11_areMarks 13 = .ok (.ifCond .eq 7, 3) := by decide +kernel
theorem dX11_areMarks_16 : decode cX11_areMarks 16 = .ok (.iconst 1, 1) := by decide +kernel
theorem dX11_areMarks_17 : decode cX11_areMarks 17 = .ok (.goto 4, 3) := by decide +kernel
theorem dX11_areMarks_20 : decode cX11_areMarks 20 = .ok (.iconst 0, 1) := by decide +kernel
theorem dX11_areMarks_21 : decode cX11_areMarks 21 = .ok (.ireturn, 1) := by decide +kernel
def rmX11_areMarks : Room := rmk 8 0 0 196
theorem nX11_areMarks : nameOk yX11_areMarks 2 = true := by decide +kernel
def bX11_areMarks_0 (J : JT) : List Value → Sem
  | [.ref x0, .int x1, .int x2] =>
    ob 11 x0 (cI SX11_isMark [.ref x0, .int x1] fun v1 =>
    br (v1 = 0)
    (rZ 0)
    (ob 11 x0 (cI SX11_isMark [.ref x0, .int x2] fun v2 =>
    br (v2 = 0)
    (rZ 0)
    (rZ 1))))
  | _ => no
def bX11_areMarks (J : JT) : JT := fun L a => match L with
  | 0 => bX11_areMarks_0 J a
  | _ => no
def SX11_areMarks : ST := mk 3 bX11_areMarks
def lX11_areMarks (L : Nat) (a : List Value) : Nat × Nat × Nat × List (Nat × Value) × List Value := match L with
  | 0 => (0, 0, 0, lv_args 0 a, [])
  | _ => (0, 0, 0, [], [])
theorem pX11_areMarks_0 {Γ : CT} (hC : Ctx Γ "SpiritWallModel" cX11_areMarks 3 (some .boolean) rmX11_areMarks) (hnt : NT Γ) (J : JT) (hJ : ∀ L a, Cor Γ 3 (lX11_areMarks L a).1 (lX11_areMarks L a).2.1 (lX11_areMarks L a).2.2.1 (lX11_areMarks L a).2.2.2.1 (lX11_areMarks L a).2.2.2.2 (J L a)) (a : List Value) : Cor Γ 3 0 0 0 (lv_args 0 a) [] (bX11_areMarks_0 J a) := by
  unfold bX11_areMarks_0
  split
  · rename_i x0 x1 x2
    refine c_sub [0, 1, 2] rfl (loc' := [(0, .ref x0), (1, .int x1), (2, .int x2)]) ?_
    refine q_aload_n hC 0 dX11_areMarks_0 rfl rfl ?_
    refine q_iload_n hC 1 dX11_areMarks_1 rfl rfl ?_
    refine q_cVI hC hnt (stk := []) (as := [.int x1]) sX11_isMark (ci := 11) (by decide) rfl nX11_isMark rfl w_850 w_852 w_853 w_830 w_851 (Nat.le_of_ble_eq_true rfl) dX11_areMarks_2 rfl (fun v1 => ?_)
    refine q_if_eq hC 20 dX11_areMarks_5 rfl ?_ ?_
    · refine q_iconst hC dX11_areMarks_20 rfl ?_
      exact q_zret hC dX11_areMarks_21 (Nat.le_of_ble_eq_true rfl) (Nat.le_of_ble_eq_true rfl)
    · refine q_aload_n hC 0 dX11_areMarks_8 rfl rfl ?_
      refine q_iload_n hC 2 dX11_areMarks_9 rfl rfl ?_
      refine q_cVI hC hnt (stk := []) (as := [.int x2]) sX11_isMark (ci := 11) (by decide) rfl nX11_isMark rfl w_850 w_852 w_853 w_830 w_851 (Nat.le_of_ble_eq_true rfl) dX11_areMarks_10 rfl (fun v2 => ?_)
      refine q_if_eq hC 20 dX11_areMarks_13 rfl ?_ ?_
      · refine q_iconst hC dX11_areMarks_20 rfl ?_
        exact q_zret hC dX11_areMarks_21 (Nat.le_of_ble_eq_true rfl) (Nat.le_of_ble_eq_true rfl)
      · refine q_iconst hC dX11_areMarks_16 rfl ?_
        refine q_goto hC 21 dX11_areMarks_17 rfl ?_
        exact q_zret hC dX11_areMarks_21 (Nat.le_of_ble_eq_true rfl) (Nat.le_of_ble_eq_true rfl)
  · exact c_no
theorem sX11_areMarks : Snd yX11_areMarks (.code yX11_areMarks cX11_areMarks 3 (some .boolean)) rmX11_areMarks SX11_areMarks := by
  refine Snd.of lX11_areMarks (by decide +kernel) (fun _ => rfl) ?_
  intro Γ hC hnt hnm J hJ L a
  match L with
  | 0 => exact pX11_areMarks_0 hC hnt J hJ a
  | L + 1 => exact c_no
/-! SpiritWallModel.isSight(I)Z -/
theorem dX11_isSight_0 : decode cX11_isSight 0 = .ok (.iload_n 1, 1) := by decide +kernel
theorem dX11_isSight_1 : decode cX11_isSight 1 = .ok (.i2l, 1) := by decide +kernel
theorem dX11_isSight_2 : decode cX11_isSight 2 = .ok (.lconst 0, 1) := by decide +kernel
theorem dX11_isSight_3 : decode cX11_isSight 3 = .ok (.aload_n 0, 1) := by decide +kernel
theorem dX11_isSight_4 : decode cX11_isSight 4 = .ok (.invokevirtual 97, 3) := by decide +kernel
theorem dX11_isSight_7 : decode cX11_isSight 7 = .ok (.iconst 1, 1) := by decide +kernel
theorem dX11_isSight_8 : decode cX11_isSight 8 = .ok (.isub, 1) := by decide +kernel
theorem dX11_isSight_9 : decode cX11_isSight 9 = .ok (.i2l, 1) := by decide +kernel
theorem dX11_isSight_10 : decode cX11_isSight 10 = .ok (.invokestatic 89, 3) := by decide +kernel
theorem dX11_isSight_13 : decode cX11_isSight 13 = .ok (.ireturn, 1) := by decide +kernel
def rmX11_isSight : Room := rmk 7 0 0 175
theorem nX11_isSight : nameOk yX11_isSight 1 = true := by decide +kernel
def bX11_isSight_0 (J : JT) : List Value → Sem
  | [.ref x0, .int x1] =>
    ob 11 x0 (cI SX11_sights [.ref x0] fun v1 =>
    cI SX11_isIn [.long (x1.toInt64), .long 0, .long ((v1 - 1).toInt64)] fun v2 =>
    rZ v2)
  | _ => no
def bX11_isSight (J : JT) : JT := fun L a => match L with
  | 0 => bX11_isSight_0 J a
  | _ => no
def SX11_isSight : ST := mk 2 bX11_isSight
def lX11_isSight (L : Nat) (a : List Value) : Nat × Nat × Nat × List (Nat × Value) × List Value := match L with
  | 0 => (0, 0, 0, lv_args 0 a, [])
  | _ => (0, 0, 0, [], [])
theorem pX11_isSight_0 {Γ : CT} (hC : Ctx Γ "SpiritWallModel" cX11_isSight 2 (some .boolean) rmX11_isSight) (hnt : NT Γ) (J : JT) (hJ : ∀ L a, Cor Γ 2 (lX11_isSight L a).1 (lX11_isSight L a).2.1 (lX11_isSight L a).2.2.1 (lX11_isSight L a).2.2.2.1 (lX11_isSight L a).2.2.2.2 (J L a)) (a : List Value) : Cor Γ 2 0 0 0 (lv_args 0 a) [] (bX11_isSight_0 J a) := by
  unfold bX11_isSight_0
  split
  · rename_i x0 x1
    refine c_sub [0, 1] rfl (loc' := [(0, .ref x0), (1, .int x1)]) ?_
    refine q_iload_n hC 1 dX11_isSight_0 rfl rfl ?_
    refine q_i2l hC dX11_isSight_1 ?_
    refine q_lconst hC (v := 0) dX11_isSight_2 rfl ?_
    refine q_aload_n hC 0 dX11_isSight_3 rfl rfl ?_
    refine q_cVI hC hnt (stk := [.long 0, .long (x1.toInt64)]) (as := []) sX11_sights (ci := 11) (by decide) rfl nX11_sights rfl w_854 w_856 w_857 w_830 w_855 (Nat.le_of_ble_eq_true rfl) dX11_isSight_4 rfl (fun v1 => ?_)
    refine q_iconst hC dX11_isSight_7 rfl ?_
    refine q_isub hC dX11_isSight_8 ?_
    refine q_i2l hC dX11_isSight_9 ?_
    refine q_cSI hC hnt (stk := []) (as := [.long (x1.toInt64), .long 0, .long ((v1 - 1).toInt64)]) sX11_isIn nX11_isIn rfl w_847 w_849 w_830 w_848 (Nat.le_of_ble_eq_true rfl) dX11_isSight_10 rfl (fun v2 => ?_)
    exact q_zret hC dX11_isSight_13 (Nat.le_of_ble_eq_true rfl) (Nat.le_of_ble_eq_true rfl)
  · exact c_no
theorem sX11_isSight : Snd yX11_isSight (.code yX11_isSight cX11_isSight 2 (some .boolean)) rmX11_isSight SX11_isSight := by
  refine Snd.of lX11_isSight (by decide +kernel) (fun _ => rfl) ?_
  intro Γ hC hnt hnm J hJ L a
  match L with
  | 0 => exact pX11_isSight_0 hC hnt J hJ a
  | L + 1 => exact c_no
/-! SpiritWallModel.of(II)I -/
theorem dX11_of_0 : decode cX11_of 0 = .ok (.aload_n 0, 1) := by decide +kernel
theorem dX11_of_1 : decode cX11_of 1 = .ok (.getfield 7, 3) := by decide +kernel
theorem dX11_of_4 : decode cX11_of 4 = .ok (.bipush 8, 2) := by decide +kernel
theorem dX11_of_6 : decode cX11_of 6 = .ok (.iconst 5, 1) := by decide +kernel
theorem dX11_of_7 : decode cX11_of 7 = .ok (.iload_n 1, 1) := by decide +kernel
theorem dX11_of_8 : decode cX11_of 8 = .ok (.imul, 1) := by decide +kernel
theorem dX11_of_9 : decode cX11_of 9 = .ok (.iadd, 1) := by decide +kernel
theorem dX11_of_10 : decode cX11_of 10 = .ok (.iload_n 2, 1) := by decide +kernel
theorem dX11_of_11 : decode cX11_of 11 = .ok (.iadd, 1) := by decide +kernel
theorem dX11_of_12 : decode cX11_of 12 = .ok (.iaload, 1) := by decide +kernel
theorem dX11_of_13 : decode cX11_of 13 = .ok (.ireturn, 1) := by decide +kernel
def rmX11_of : Room := rmk 6 0 0 150
theorem nX11_of : nameOk yX11_of 2 = true := by decide +kernel
def bX11_of_0 (J : JT) : List Value → Sem
  | [.ref x0, .int x1, .int x2] =>
    gR 11 1 x0 fun r1 =>
    aI r1 ((8 + (5 * x1)) + x2) fun v2 =>
    rI v2
  | _ => no
def bX11_of (J : JT) : JT := fun L a => match L with
  | 0 => bX11_of_0 J a
  | _ => no
def SX11_of : ST := mk 3 bX11_of
def lX11_of (L : Nat) (a : List Value) : Nat × Nat × Nat × List (Nat × Value) × List Value := match L with
  | 0 => (0, 0, 0, lv_args 0 a, [])
  | _ => (0, 0, 0, [], [])
theorem pX11_of_0 {Γ : CT} (hC : Ctx Γ "SpiritWallModel" cX11_of 3 (some .int) rmX11_of) (hnt : NT Γ) (J : JT) (hJ : ∀ L a, Cor Γ 3 (lX11_of L a).1 (lX11_of L a).2.1 (lX11_of L a).2.2.1 (lX11_of L a).2.2.2.1 (lX11_of L a).2.2.2.2 (J L a)) (a : List Value) : Cor Γ 3 0 0 0 (lv_args 0 a) [] (bX11_of_0 J a) := by
  unfold bX11_of_0
  split
  · rename_i x0 x1 x2
    refine c_sub [0, 1, 2] rfl (loc' := [(0, .ref x0), (1, .int x1), (2, .int x2)]) ?_
    refine q_aload_n hC 0 dX11_of_0 rfl rfl ?_
    refine q_getR hC (by decide) (by decide) rfl w_808 dX11_of_1 (fun r1 => ?_)
    refine q_bipush hC (v := 8) dX11_of_4 rfl ?_
    refine q_iconst hC dX11_of_6 rfl ?_
    refine q_iload_n hC 1 dX11_of_7 rfl rfl ?_
    refine q_imul hC dX11_of_8 ?_
    refine q_iadd hC dX11_of_9 ?_
    refine q_iload_n hC 2 dX11_of_10 rfl rfl ?_
    refine q_iadd hC dX11_of_11 ?_
    refine q_iald hC dX11_of_12 (fun v2 => ?_)
    exact q_iret hC dX11_of_13 (Nat.le_of_ble_eq_true rfl) (Nat.le_of_ble_eq_true rfl)
  · exact c_no
theorem sX11_of : Snd yX11_of (.code yX11_of cX11_of 3 (some .int)) rmX11_of SX11_of := by
  refine Snd.of lX11_of (by decide +kernel) (fun _ => rfl) ?_
  intro Γ hC hnt hnm J hJ L a
  match L with
  | 0 => exact pX11_of_0 hC hnt J hJ a
  | L + 1 => exact c_no
/-! SpiritWallModel.lays(III)V -/
theorem dX11_lays_0 : decode cX11_lays 0 = .ok (.aload_n 0, 1) := by decide +kernel
theorem dX11_lays_1 : decode cX11_lays 1 = .ok (.getfield 7, 3) := by decide +kernel
theorem dX11_lays_4 : decode cX11_lays 4 = .ok (.bipush 8, 2) := by decide +kernel
theorem dX11_lays_6 : decode cX11_lays 6 = .ok (.iconst 5, 1) := by decide +kernel
theorem dX11_lays_7 : decode cX11_lays 7 = .ok (.iload_n 1, 1) := by decide +kernel
theorem dX11_lays_8 : decode cX11_lays 8 = .ok (.imul, 1) := by decide +kernel
theorem dX11_lays_9 : decode cX11_lays 9 = .ok (.iadd, 1) := by decide +kernel
theorem dX11_lays_10 : decode cX11_lays 10 = .ok (.iload_n 2, 1) := by decide +kernel
theorem dX11_lays_11 : decode cX11_lays 11 = .ok (.iadd, 1) := by decide +kernel
theorem dX11_lays_12 : decode cX11_lays 12 = .ok (.iload_n 3, 1) := by decide +kernel
theorem dX11_lays_13 : decode cX11_lays 13 = .ok (.iastore, 1) := by decide +kernel
theorem dX11_lays_14 : decode cX11_lays 14 = .ok (.return_, 1) := by decide +kernel
def rmX11_lays : Room := rmk 6 0 0 150
theorem nX11_lays : nameOk yX11_lays 3 = true := by decide +kernel
def bX11_lays_0 (J : JT) : List Value → Sem
  | [.ref x0, .int x1, .int x2, .int x3] =>
    gR 11 1 x0 fun r1 =>
    sA r1 ((8 + (5 * x1)) + x2) x3 <|
    rV
  | _ => no
def bX11_lays (J : JT) : JT := fun L a => match L with
  | 0 => bX11_lays_0 J a
  | _ => no
def SX11_lays : ST := mk 4 bX11_lays
def lX11_lays (L : Nat) (a : List Value) : Nat × Nat × Nat × List (Nat × Value) × List Value := match L with
  | 0 => (0, 0, 0, lv_args 0 a, [])
  | _ => (0, 0, 0, [], [])
theorem pX11_lays_0 {Γ : CT} (hC : Ctx Γ "SpiritWallModel" cX11_lays 4 none rmX11_lays) (hnt : NT Γ) (J : JT) (hJ : ∀ L a, Cor Γ 4 (lX11_lays L a).1 (lX11_lays L a).2.1 (lX11_lays L a).2.2.1 (lX11_lays L a).2.2.2.1 (lX11_lays L a).2.2.2.2 (J L a)) (a : List Value) : Cor Γ 4 0 0 0 (lv_args 0 a) [] (bX11_lays_0 J a) := by
  unfold bX11_lays_0
  split
  · rename_i x0 x1 x2 x3
    refine c_sub [0, 1, 2, 3] rfl (loc' := [(0, .ref x0), (1, .int x1), (2, .int x2), (3, .int x3)]) ?_
    refine q_aload_n hC 0 dX11_lays_0 rfl rfl ?_
    refine q_getR hC (by decide) (by decide) rfl w_808 dX11_lays_1 (fun r1 => ?_)
    refine q_bipush hC (v := 8) dX11_lays_4 rfl ?_
    refine q_iconst hC dX11_lays_6 rfl ?_
    refine q_iload_n hC 1 dX11_lays_7 rfl rfl ?_
    refine q_imul hC dX11_lays_8 ?_
    refine q_iadd hC dX11_lays_9 ?_
    refine q_iload_n hC 2 dX11_lays_10 rfl rfl ?_
    refine q_iadd hC dX11_lays_11 ?_
    refine q_iload_n hC 3 dX11_lays_12 rfl rfl ?_
    refine q_iast hC dX11_lays_13 ?_
    exact q_vret hC dX11_lays_14 (Nat.le_of_ble_eq_true rfl) (Nat.le_of_ble_eq_true rfl)
  · exact c_no
theorem sX11_lays : Snd yX11_lays (.code yX11_lays cX11_lays 4 none) rmX11_lays SX11_lays := by
  refine Snd.of lX11_lays (by decide +kernel) (fun _ => rfl) ?_
  intro Γ hC hnt hnm J hJ L a
  match L with
  | 0 => exact pX11_lays_0 hC hnt J hJ a
  | L + 1 => exact c_no
/-! SpiritWallModel.ofSight(II)I -/
theorem dX11_ofSight_0 : decode cX11_ofSight 0 = .ok (.aload_n 0, 1) := by decide +kernel
theorem dX11_ofSight_1 : decode cX11_ofSight 1 = .ok (.getfield 7, 3) := by decide +kernel
theorem dX11_ofSight_4 : decode cX11_ofSight 4 = .ok (.bipush 68, 2) := by decide +kernel
theorem dX11_ofSight_6 : decode cX11_ofSight 6 = .ok (.bipush 6, 2) := by decide +kernel
theorem dX11_ofSight_8 : decode cX11_ofSight 8 = .ok (.iload_n 1, 1) := by decide +kernel
theorem dX11_ofSight_9 : decode cX11_ofSight 9 = .ok (.imul, 1) := by decide +kernel
theorem dX11_ofSight_10 : decode cX11_ofSight 10 = .ok (.iadd, 1) := by decide +kernel
theorem dX11_ofSight_11 : decode cX11_ofSight 11 = .ok (.iload_n 2, 1) := by decide +kernel
theorem dX11_ofSight_12 : decode cX11_ofSight 12 = .ok (.iadd, 1) := by decide +kernel
theorem dX11_ofSight_13 : decode cX11_ofSight 13 = .ok (.iaload, 1) := by decide +kernel
theorem dX11_ofSight_14 : decode cX11_ofSight 14 = .ok (.ireturn, 1) := by decide +kernel
def rmX11_ofSight : Room := rmk 6 0 0 150
theorem nX11_ofSight : nameOk yX11_ofSight 2 = true := by decide +kernel
def bX11_ofSight_0 (J : JT) : List Value → Sem
  | [.ref x0, .int x1, .int x2] =>
    gR 11 1 x0 fun r1 =>
    aI r1 ((68 + (6 * x1)) + x2) fun v2 =>
    rI v2
  | _ => no
def bX11_ofSight (J : JT) : JT := fun L a => match L with
  | 0 => bX11_ofSight_0 J a
  | _ => no
def SX11_ofSight : ST := mk 3 bX11_ofSight
def lX11_ofSight (L : Nat) (a : List Value) : Nat × Nat × Nat × List (Nat × Value) × List Value := match L with
  | 0 => (0, 0, 0, lv_args 0 a, [])
  | _ => (0, 0, 0, [], [])
theorem pX11_ofSight_0 {Γ : CT} (hC : Ctx Γ "SpiritWallModel" cX11_ofSight 3 (some .int) rmX11_ofSight) (hnt : NT Γ) (J : JT) (hJ : ∀ L a, Cor Γ 3 (lX11_ofSight L a).1 (lX11_ofSight L a).2.1 (lX11_ofSight L a).2.2.1 (lX11_ofSight L a).2.2.2.1 (lX11_ofSight L a).2.2.2.2 (J L a)) (a : List Value) : Cor Γ 3 0 0 0 (lv_args 0 a) [] (bX11_ofSight_0 J a) := by
  unfold bX11_ofSight_0
  split
  · rename_i x0 x1 x2
    refine c_sub [0, 1, 2] rfl (loc' := [(0, .ref x0), (1, .int x1), (2, .int x2)]) ?_
    refine q_aload_n hC 0 dX11_ofSight_0 rfl rfl ?_
    refine q_getR hC (by decide) (by decide) rfl w_808 dX11_ofSight_1 (fun r1 => ?_)
    refine q_bipush hC (v := 68) dX11_ofSight_4 rfl ?_
    refine q_bipush hC (v := 6) dX11_ofSight_6 rfl ?_
    refine q_iload_n hC 1 dX11_ofSight_8 rfl rfl ?_
    refine q_imul hC dX11_ofSight_9 ?_
    refine q_iadd hC dX11_ofSight_10 ?_
    refine q_iload_n hC 2 dX11_ofSight_11 rfl rfl ?_
    refine q_iadd hC dX11_ofSight_12 ?_
    refine q_iald hC dX11_ofSight_13 (fun v2 => ?_)
    exact q_iret hC dX11_ofSight_14 (Nat.le_of_ble_eq_true rfl) (Nat.le_of_ble_eq_true rfl)
  · exact c_no
theorem sX11_ofSight : Snd yX11_ofSight (.code yX11_ofSight cX11_ofSight 3 (some .int)) rmX11_ofSight SX11_ofSight := by
  refine Snd.of lX11_ofSight (by decide +kernel) (fun _ => rfl) ?_
  intro Γ hC hnt hnm J hJ L a
  match L with
  | 0 => exact pX11_ofSight_0 hC hnt J hJ a
  | L + 1 => exact c_no
/-! SpiritWallModel.laysSight(III)V -/
theorem dX11_laysSight_0 : decode cX11_laysSight 0 = .ok (.aload_n 0, 1) := by decide +kernel
theorem dX11_laysSight_1 : decode cX11_laysSight 1 = .ok (.getfield 7, 3) := by decide +kernel
theorem dX11_laysSight_4 : decode cX11_laysSight 4 = .ok (.bipush 68, 2) := by decide +kernel
theorem dX11_laysSight_6 : decode cX11_laysSight 6 = .ok (.bipush 6, 2) := by decide +kernel
theorem dX11_laysSight_8 : decode cX11_laysSight 8 = .ok (.iload_n 1, 1) := by decide +kernel
theorem dX11_laysSight_9 : decode cX11_laysSight 9 = .ok (.imul, 1) := by decide +kernel
theorem dX11_laysSight_10 : decode cX11_laysSight 10 = .ok (.iadd, 1) := by decide +kernel
theorem dX11_laysSight_11 : decode cX11_laysSight 11 = .ok (.iload_n 2, 1) := by decide +kernel
theorem dX11_laysSight_12 : decode cX11_laysSight 12 = .ok (.iadd, 1) := by decide +kernel
theorem dX11_laysSight_13 : decode cX11_laysSight 13 = .ok (.iload_n 3, 1) := by decide +kernel
theorem dX11_laysSight_14 : decode cX11_laysSight 14 = .ok (.iastore, 1) := by decide +kernel
theorem dX11_laysSight_15 : decode cX11_laysSight 15 = .ok (.return_, 1) := by decide +kernel
def rmX11_laysSight : Room := rmk 6 0 0 150
theorem nX11_laysSight : nameOk yX11_laysSight 3 = true := by decide +kernel
def bX11_laysSight_0 (J : JT) : List Value → Sem
  | [.ref x0, .int x1, .int x2, .int x3] =>
    gR 11 1 x0 fun r1 =>
    sA r1 ((68 + (6 * x1)) + x2) x3 <|
    rV
  | _ => no
def bX11_laysSight (J : JT) : JT := fun L a => match L with
  | 0 => bX11_laysSight_0 J a
  | _ => no
def SX11_laysSight : ST := mk 4 bX11_laysSight
def lX11_laysSight (L : Nat) (a : List Value) : Nat × Nat × Nat × List (Nat × Value) × List Value := match L with
  | 0 => (0, 0, 0, lv_args 0 a, [])
  | _ => (0, 0, 0, [], [])
theorem pX11_laysSight_0 {Γ : CT} (hC : Ctx Γ "SpiritWallModel" cX11_laysSight 4 none rmX11_laysSight) (hnt : NT Γ) (J : JT) (hJ : ∀ L a, Cor Γ 4 (lX11_laysSight L a).1 (lX11_laysSight L a).2.1 (lX11_laysSight L a).2.2.1 (lX11_laysSight L a).2.2.2.1 (lX11_laysSight L a).2.2.2.2 (J L a)) (a : List Value) : Cor Γ 4 0 0 0 (lv_args 0 a) [] (bX11_laysSight_0 J a) := by
  unfold bX11_laysSight_0
  split
  · rename_i x0 x1 x2 x3
    refine c_sub [0, 1, 2, 3] rfl (loc' := [(0, .ref x0), (1, .int x1), (2, .int x2), (3, .int x3)]) ?_
    refine q_aload_n hC 0 dX11_laysSight_0 rfl rfl ?_
    refine q_getR hC (by decide) (by decide) rfl w_808 dX11_laysSight_1 (fun r1 => ?_)
    refine q_bipush hC (v := 68) dX11_laysSight_4 rfl ?_
    refine q_bipush hC (v := 6) dX11_laysSight_6 rfl ?_
    refine q_iload_n hC 1 dX11_laysSight_8 rfl rfl ?_
    refine q_imul hC dX11_laysSight_9 ?_
    refine q_iadd hC dX11_laysSight_10 ?_
    refine q_iload_n hC 2 dX11_laysSight_11 rfl rfl ?_
    refine q_iadd hC dX11_laysSight_12 ?_
    refine q_iload_n hC 3 dX11_laysSight_13 rfl rfl ?_
    refine q_iast hC dX11_laysSight_14 ?_
    exact q_vret hC dX11_laysSight_15 (Nat.le_of_ble_eq_true rfl) (Nat.le_of_ble_eq_true rfl)
  · exact c_no
theorem sX11_laysSight : Snd yX11_laysSight (.code yX11_laysSight cX11_laysSight 4 none) rmX11_laysSight SX11_laysSight := by
  refine Snd.of lX11_laysSight (by decide +kernel) (fun _ => rfl) ?_
  intro Γ hC hnt hnm J hJ L a
  match L with
  | 0 => exact pX11_laysSight_0 hC hnt J hJ a
  | L + 1 => exact c_no
/-! SpiritWallModel.counts(I)Z -/
theorem dX11_counts_0 : decode cX11_counts 0 = .ok (.aload_n 0, 1) := by decide +kernel
theorem dX11_counts_1 : decode cX11_counts 1 = .ok (.iload_n 1, 1) := by decide +kernel
theorem dX11_counts_2 : decode cX11_counts 2 = .ok (.iconst 5, 1) := by decide +kernel
theorem dX11_counts_3 : decode cX11_counts 3 = .ok (.invokevirtual 100, 3) := by decide +kernel
theorem dX11_counts_6 : decode cX11_counts 6 = .ok (.ifCond .ne 7, 3) := by decide +kernel
theorem dX11_counts_9 : decode cX11_counts 9 = .ok (.iconst 1, 1) := by decide +kernel
theorem dX11_counts_10 : decode cX11_counts 10 = .ok (.goto 4, 3) := by decide +kernel
theorem dX11_counts_13 : decode cX11_counts 13 = .ok (.iconst 0, 1) := by decide +kernel
theorem dX11_counts_14 : decode cX11_counts 14 = .ok (.ireturn, 1) := by decide +kernel
def rmX11_counts : Room := rmk 7 0 0 172
theorem nX11_counts : nameOk yX11_counts 1 = true := by decide +kernel
def bX11_counts_0 (J : JT) : List Value → Sem
  | [.ref x0, .int x1] =>
    ob 11 x0 (cI SX11_ofSight [.ref x0, .int x1, .int 5] fun v1 =>
    br (v1 = 0)
    (rZ 1)
    (rZ 0))
  | _ => no
def bX11_counts (J : JT) : JT := fun L a => match L with
  | 0 => bX11_counts_0 J a
  | _ => no
def SX11_counts : ST := mk 2 bX11_counts
def lX11_counts (L : Nat) (a : List Value) : Nat × Nat × Nat × List (Nat × Value) × List Value := match L with
  | 0 => (0, 0, 0, lv_args 0 a, [])
  | _ => (0, 0, 0, [], [])
theorem pX11_counts_0 {Γ : CT} (hC : Ctx Γ "SpiritWallModel" cX11_counts 2 (some .boolean) rmX11_counts) (hnt : NT Γ) (J : JT) (hJ : ∀ L a, Cor Γ 2 (lX11_counts L a).1 (lX11_counts L a).2.1 (lX11_counts L a).2.2.1 (lX11_counts L a).2.2.2.1 (lX11_counts L a).2.2.2.2 (J L a)) (a : List Value) : Cor Γ 2 0 0 0 (lv_args 0 a) [] (bX11_counts_0 J a) := by
  unfold bX11_counts_0
  split
  · rename_i x0 x1
    refine c_sub [0, 1] rfl (loc' := [(0, .ref x0), (1, .int x1)]) ?_
    refine q_aload_n hC 0 dX11_counts_0 rfl rfl ?_
    refine q_iload_n hC 1 dX11_counts_1 rfl rfl ?_
    refine q_iconst hC dX11_counts_2 rfl ?_
    refine q_cVI hC hnt (stk := []) (as := [.int x1, .int 5]) sX11_ofSight (ci := 11) (by decide) rfl nX11_ofSight rfl w_858 w_860 w_861 w_830 w_859 (Nat.le_of_ble_eq_true rfl) dX11_counts_3 rfl (fun v1 => ?_)
    refine q_if_ne hC 13 dX11_counts_6 rfl ?_ ?_
    · refine q_iconst hC dX11_counts_13 rfl ?_
      exact q_zret hC dX11_counts_14 (Nat.le_of_ble_eq_true rfl) (Nat.le_of_ble_eq_true rfl)
    · refine q_iconst hC dX11_counts_9 rfl ?_
      refine q_goto hC 14 dX11_counts_10 rfl ?_
      exact q_zret hC dX11_counts_14 (Nat.le_of_ble_eq_true rfl) (Nat.le_of_ble_eq_true rfl)
  · exact c_no
theorem sX11_counts : Snd yX11_counts (.code yX11_counts cX11_counts 2 (some .boolean)) rmX11_counts SX11_counts := by
  refine Snd.of lX11_counts (by decide +kernel) (fun _ => rfl) ?_
  intro Γ hC hnt hnm J hJ L a
  match L with
  | 0 => exact pX11_counts_0 hC hnt J hJ a
  | L + 1 => exact c_no
/-! SpiritWallModel.hasHeight(I)Z -/
theorem dX11_hasHeight_0 : decode cX11_hasHeight 0 = .ok (.aload_n 0, 1) := by decide +kernel
theorem dX11_hasHeight_1 : decode cX11_hasHeight 1 = .ok (.iload_n 1, 1) := by decide +kernel
theorem dX11_hasHeight_2 : decode cX11_hasHeight 2 = .ok (.iconst 3, 1) := by decide +kernel
theorem dX11_hasHeight_3 : decode cX11_hasHeight 3 = .ok (.invokevirtual 104, 3) := by decide +kernel
theorem dX11_hasHeight_6 : decode cX11_hasHeight 6 = .ok (.iconst 1, 1) := by decide +kernel
theorem dX11_hasHeight_7 : decode cX11_hasHeight 7 = .ok (.if_icmp .ne 7, 3) := by decide +kernel
theorem dX11_hasHeight_10 : decode cX11_hasHeight 10 = .ok (.iconst 1, 1) := by decide +kernel
theorem dX11_hasHeight_11 : decode cX11_hasHeight 11 = .ok (.goto 4, 3) := by decide +kernel
theorem dX11_hasHeight_14 : decode cX11_hasHeight 14 = .ok (.iconst 0, 1) := by decide +kernel
theorem dX11_hasHeight_15 : decode cX11_hasHeight 15 = .ok (.ireturn, 1) := by decide +kernel
def rmX11_hasHeight : Room := rmk 7 0 0 172
theorem nX11_hasHeight : nameOk yX11_hasHeight 1 = true := by decide +kernel
def bX11_hasHeight_0 (J : JT) : List Value → Sem
  | [.ref x0, .int x1] =>
    ob 11 x0 (cI SX11_of [.ref x0, .int x1, .int 3] fun v1 =>
    br (v1 = (1 : Int32))
    (rZ 1)
    (rZ 0))
  | _ => no
def bX11_hasHeight (J : JT) : JT := fun L a => match L with
  | 0 => bX11_hasHeight_0 J a
  | _ => no
def SX11_hasHeight : ST := mk 2 bX11_hasHeight
def lX11_hasHeight (L : Nat) (a : List Value) : Nat × Nat × Nat × List (Nat × Value) × List Value := match L with
  | 0 => (0, 0, 0, lv_args 0 a, [])
  | _ => (0, 0, 0, [], [])
theorem pX11_hasHeight_0 {Γ : CT} (hC : Ctx Γ "SpiritWallModel" cX11_hasHeight 2 (some .boolean) rmX11_hasHeight) (hnt : NT Γ) (J : JT) (hJ : ∀ L a, Cor Γ 2 (lX11_hasHeight L a).1 (lX11_hasHeight L a).2.1 (lX11_hasHeight L a).2.2.1 (lX11_hasHeight L a).2.2.2.1 (lX11_hasHeight L a).2.2.2.2 (J L a)) (a : List Value) : Cor Γ 2 0 0 0 (lv_args 0 a) [] (bX11_hasHeight_0 J a) := by
  unfold bX11_hasHeight_0
  split
  · rename_i x0 x1
    refine c_sub [0, 1] rfl (loc' := [(0, .ref x0), (1, .int x1)]) ?_
    refine q_aload_n hC 0 dX11_hasHeight_0 rfl rfl ?_
    refine q_iload_n hC 1 dX11_hasHeight_1 rfl rfl ?_
    refine q_iconst hC dX11_hasHeight_2 rfl ?_
    refine q_cVI hC hnt (stk := []) (as := [.int x1, .int 3]) sX11_of (ci := 11) (by decide) rfl nX11_of rfl w_862 w_864 w_865 w_830 w_863 (Nat.le_of_ble_eq_true rfl) dX11_hasHeight_3 rfl (fun v1 => ?_)
    refine q_iconst hC dX11_hasHeight_6 rfl ?_
    refine q_ic_ne hC 14 dX11_hasHeight_7 rfl ?_ ?_
    · refine q_iconst hC dX11_hasHeight_14 rfl ?_
      exact q_zret hC dX11_hasHeight_15 (Nat.le_of_ble_eq_true rfl) (Nat.le_of_ble_eq_true rfl)
    · refine q_iconst hC dX11_hasHeight_10 rfl ?_
      refine q_goto hC 15 dX11_hasHeight_11 rfl ?_
      exact q_zret hC dX11_hasHeight_15 (Nat.le_of_ble_eq_true rfl) (Nat.le_of_ble_eq_true rfl)
  · exact c_no
theorem sX11_hasHeight : Snd yX11_hasHeight (.code yX11_hasHeight cX11_hasHeight 2 (some .boolean)) rmX11_hasHeight SX11_hasHeight := by
  refine Snd.of lX11_hasHeight (by decide +kernel) (fun _ => rfl) ?_
  intro Γ hC hnt hnm J hJ L a
  match L with
  | 0 => exact pX11_hasHeight_0 hC hnt J hJ a
  | L + 1 => exact c_no
/-! SpiritWallModel.isBench(I)Z -/
theorem dX11_isBench_0 : decode cX11_isBench 0 = .ok (.aload_n 0, 1) := by decide +kernel
theorem dX11_isBench_1 : decode cX11_isBench 1 = .ok (.iload_n 1, 1) := by decide +kernel
theorem dX11_isBench_2 : decode cX11_isBench 2 = .ok (.iconst 2, 1) := by decide +kernel
theorem dX11_isBench_3 : decode cX11_isBench 3 = .ok (.invokevirtual 104, 3) := by decide +kernel
theorem dX11_isBench_6 : decode cX11_isBench 6 = .ok (.iconst 1, 1) := by decide +kernel
theorem dX11_isBench_7 : decode cX11_isBench 7 = .ok (.if_icmp .ne 7, 3) := by decide +kernel
theorem dX11_isBench_10 : decode cX11_isBench 10 = .ok (.iconst 1, 1) := by decide +kernel
theorem dX11_isBench_11 : decode cX11_isBench 11 = .ok (.goto 4, 3) := by decide +kernel
theorem dX11_isBench_14 : decode cX11_isBench 14 = .ok (.iconst 0, 1) := by decide +kernel
theorem dX11_isBench_15 : decode cX11_isBench 15 = .ok (.ireturn, 1) := by decide +kernel
def rmX11_isBench : Room := rmk 7 0 0 172
theorem nX11_isBench : nameOk yX11_isBench 1 = true := by decide +kernel
def bX11_isBench_0 (J : JT) : List Value → Sem
  | [.ref x0, .int x1] =>
    ob 11 x0 (cI SX11_of [.ref x0, .int x1, .int 2] fun v1 =>
    br (v1 = (1 : Int32))
    (rZ 1)
    (rZ 0))
  | _ => no
def bX11_isBench (J : JT) : JT := fun L a => match L with
  | 0 => bX11_isBench_0 J a
  | _ => no
def SX11_isBench : ST := mk 2 bX11_isBench
def lX11_isBench (L : Nat) (a : List Value) : Nat × Nat × Nat × List (Nat × Value) × List Value := match L with
  | 0 => (0, 0, 0, lv_args 0 a, [])
  | _ => (0, 0, 0, [], [])
theorem pX11_isBench_0 {Γ : CT} (hC : Ctx Γ "SpiritWallModel" cX11_isBench 2 (some .boolean) rmX11_isBench) (hnt : NT Γ) (J : JT) (hJ : ∀ L a, Cor Γ 2 (lX11_isBench L a).1 (lX11_isBench L a).2.1 (lX11_isBench L a).2.2.1 (lX11_isBench L a).2.2.2.1 (lX11_isBench L a).2.2.2.2 (J L a)) (a : List Value) : Cor Γ 2 0 0 0 (lv_args 0 a) [] (bX11_isBench_0 J a) := by
  unfold bX11_isBench_0
  split
  · rename_i x0 x1
    refine c_sub [0, 1] rfl (loc' := [(0, .ref x0), (1, .int x1)]) ?_
    refine q_aload_n hC 0 dX11_isBench_0 rfl rfl ?_
    refine q_iload_n hC 1 dX11_isBench_1 rfl rfl ?_
    refine q_iconst hC dX11_isBench_2 rfl ?_
    refine q_cVI hC hnt (stk := []) (as := [.int x1, .int 2]) sX11_of (ci := 11) (by decide) rfl nX11_of rfl w_862 w_864 w_865 w_830 w_863 (Nat.le_of_ble_eq_true rfl) dX11_isBench_3 rfl (fun v1 => ?_)
    refine q_iconst hC dX11_isBench_6 rfl ?_
    refine q_ic_ne hC 14 dX11_isBench_7 rfl ?_ ?_
    · refine q_iconst hC dX11_isBench_14 rfl ?_
      exact q_zret hC dX11_isBench_15 (Nat.le_of_ble_eq_true rfl) (Nat.le_of_ble_eq_true rfl)
    · refine q_iconst hC dX11_isBench_10 rfl ?_
      refine q_goto hC 15 dX11_isBench_11 rfl ?_
      exact q_zret hC dX11_isBench_15 (Nat.le_of_ble_eq_true rfl) (Nat.le_of_ble_eq_true rfl)
  · exact c_no
theorem sX11_isBench : Snd yX11_isBench (.code yX11_isBench cX11_isBench 2 (some .boolean)) rmX11_isBench SX11_isBench := by
  refine Snd.of lX11_isBench (by decide +kernel) (fun _ => rfl) ?_
  intro Γ hC hnt hnm J hJ L a
  match L with
  | 0 => exact pX11_isBench_0 hC hnt J hJ a
  | L + 1 => exact c_no
/-! SpiritWallModel.distance(II)I -/
theorem dX11_distance_0 : decode cX11_distance 0 = .ok (.aload_n 0, 1) := by decide +kernel
theorem dX11_distance_1 : decode cX11_distance 1 = .ok (.iload_n 1, 1) := by decide +kernel
theorem dX11_distance_2 : decode cX11_distance 2 = .ok (.iconst 1, 1) := by decide +kernel
theorem dX11_distance_3 : decode cX11_distance 3 = .ok (.invokevirtual 104, 3) := by decide +kernel
theorem dX11_distance_6 : decode cX11_distance 6 = .ok (.aload_n 0, 1) := by decide +kernel
theorem dX11_distance_7 : decode cX11_distance 7 = .ok (.iload_n 2, 1) := by decide +kernel
theorem dX11_distance_8 : decode cX11_distance 8 = .ok (.iconst 1, 1) := by decide +kernel
theorem dX11_distance_9 : decode cX11_distance 9 = .ok (.invokevirtual 104, 3) := by decide +kernel
theorem dX11_distance_12 : decode cX11_distance 12 = .ok (.isub, 1) := by decide +kernel
theorem dX11_distance_13 : decode cX11_distance 13 = .ok (.invokestatic 107, 3) := by decide +kernel
theorem dX11_distance_16 : decode cX11_distance 16 = .ok (.ireturn, 1) := by decide +kernel
def rmX11_distance : Room := rmk 7 0 0 172
theorem nX11_distance : nameOk yX11_distance 2 = true := by decide +kernel
def bX11_distance_0 (J : JT) : List Value → Sem
  | [.ref x0, .int x1, .int x2] =>
    ob 11 x0 (cI SX11_of [.ref x0, .int x1, .int 1] fun v1 =>
    ob 11 x0 (cI SX11_of [.ref x0, .int x2, .int 1] fun v2 =>
    cI SJ9_abs_0f7a4 [.int (v1 - v2)] fun v3 =>
    rI v3))
  | _ => no
def bX11_distance (J : JT) : JT := fun L a => match L with
  | 0 => bX11_distance_0 J a
  | _ => no
def SX11_distance : ST := mk 3 bX11_distance
def lX11_distance (L : Nat) (a : List Value) : Nat × Nat × Nat × List (Nat × Value) × List Value := match L with
  | 0 => (0, 0, 0, lv_args 0 a, [])
  | _ => (0, 0, 0, [], [])
theorem pX11_distance_0 {Γ : CT} (hC : Ctx Γ "SpiritWallModel" cX11_distance 3 (some .int) rmX11_distance) (hnt : NT Γ) (J : JT) (hJ : ∀ L a, Cor Γ 3 (lX11_distance L a).1 (lX11_distance L a).2.1 (lX11_distance L a).2.2.1 (lX11_distance L a).2.2.2.1 (lX11_distance L a).2.2.2.2 (J L a)) (a : List Value) : Cor Γ 3 0 0 0 (lv_args 0 a) [] (bX11_distance_0 J a) := by
  unfold bX11_distance_0
  split
  · rename_i x0 x1 x2
    refine c_sub [0, 1, 2] rfl (loc' := [(0, .ref x0), (1, .int x1), (2, .int x2)]) ?_
    refine q_aload_n hC 0 dX11_distance_0 rfl rfl ?_
    refine q_iload_n hC 1 dX11_distance_1 rfl rfl ?_
    refine q_iconst hC dX11_distance_2 rfl ?_
    refine q_cVI hC hnt (stk := []) (as := [.int x1, .int 1]) sX11_of (ci := 11) (by decide) rfl nX11_of rfl w_862 w_864 w_865 w_830 w_863 (Nat.le_of_ble_eq_true rfl) dX11_distance_3 rfl (fun v1 => ?_)
    refine q_aload_n hC 0 dX11_distance_6 rfl rfl ?_
    refine q_iload_n hC 2 dX11_distance_7 rfl rfl ?_
    refine q_iconst hC dX11_distance_8 rfl ?_
    refine q_cVI hC hnt (stk := [.int v1]) (as := [.int x2, .int 1]) sX11_of (ci := 11) (by decide) rfl nX11_of rfl w_862 w_864 w_865 w_830 w_863 (Nat.le_of_ble_eq_true rfl) dX11_distance_9 rfl (fun v2 => ?_)
    refine q_isub hC dX11_distance_12 ?_
    refine q_cSI hC hnt (stk := []) (as := [.int (v1 - v2)]) sJ9_abs_0f7a4 nJ9_abs_0f7a4 rfl w_866 w_687 w_351 w_686 (Nat.le_of_ble_eq_true rfl) dX11_distance_13 rfl (fun v3 => ?_)
    exact q_iret hC dX11_distance_16 (Nat.le_of_ble_eq_true rfl) (Nat.le_of_ble_eq_true rfl)
  · exact c_no
theorem sX11_distance : Snd yX11_distance (.code yX11_distance cX11_distance 3 (some .int)) rmX11_distance SX11_distance := by
  refine Snd.of lX11_distance (by decide +kernel) (fun _ => rfl) ?_
  intro Γ hC hnt hnm J hJ L a
  match L with
  | 0 => exact pX11_distance_0 hC hnt J hJ a
  | L + 1 => exact c_no
/-! SpiritWallModel.swingsOf(II)I -/
theorem dX11_swingsOf_0 : decode cX11_swingsOf 0 = .ok (.aload_n 0, 1) := by decide +kernel
theorem dX11_swingsOf_1 : decode cX11_swingsOf 1 = .ok (.iload_n 1, 1) := by decide +kernel
theorem dX11_swingsOf_2 : decode cX11_swingsOf 2 = .ok (.iload_n 2, 1) := by decide +kernel
theorem dX11_swingsOf_3 : decode cX11_swingsOf 3 = .ok (.invokevirtual 113, 3) := by decide +kernel
theorem dX11_swingsOf_6 : decode cX11_swingsOf 6 = .ok (.aload_n 0, 1) := by decide +kernel
theorem dX11_swingsOf_7 : decode cX11_swingsOf 7 = .ok (.getfield 7, 3) := by decide +kernel
theorem dX11_swingsOf_10 : decode cX11_swingsOf 10 = .ok (.iconst 2, 1) := by decide +kernel
theorem dX11_swingsOf_11 : decode cX11_swingsOf 11 = .ok (.iaload, 1) := by decide +kernel
theorem dX11_swingsOf_12 : decode cX11_swingsOf 12 = .ok (.iadd, 1) := by decide +kernel
theorem dX11_swingsOf_13 : decode cX11_swingsOf 13 = .ok (.iconst 1, 1) := by decide +kernel
theorem dX11_swingsOf_14 : decode cX11_swingsOf 14 = .ok (.isub, 1) := by decide +kernel
theorem dX11_swingsOf_15 : decode cX11_swingsOf 15 = .ok (.aload_n 0, 1) := by decide +kernel
theorem dX11_swingsOf_16 : decode cX11_swingsOf 16 = .ok (.getfield 7, 3) := by decide +kernel
theorem dX11_swingsOf_19 : decode cX11_swingsOf 19 = .ok (.iconst 2, 1) := by decide +kernel
theorem dX11_swingsOf_20 : decode cX11_swingsOf 20 = .ok (.iaload, 1) := by decide +kernel
theorem dX11_swingsOf_21 : decode cX11_swingsOf 21 = .ok (.idiv, 1) := by decide +kernel
theorem dX11_swingsOf_22 : decode cX11_swingsOf 22 = .ok (.ireturn, 1) := by decide +kernel
def rmX11_swingsOf : Room := rmk 8 0 0 194
theorem nX11_swingsOf : nameOk yX11_swingsOf 2 = true := by decide +kernel
def bX11_swingsOf_0 (J : JT) : List Value → Sem
  | [.ref x0, .int x1, .int x2] =>
    ob 11 x0 (cI SX11_distance [.ref x0, .int x1, .int x2] fun v1 =>
    gR 11 1 x0 fun r2 =>
    aI r2 2 fun v3 =>
    gR 11 1 x0 fun r4 =>
    aI r4 2 fun v5 =>
    nz v5 <|
    rI (((v1 + v3) - 1) / v5))
  | _ => no
def bX11_swingsOf (J : JT) : JT := fun L a => match L with
  | 0 => bX11_swingsOf_0 J a
  | _ => no
def SX11_swingsOf : ST := mk 3 bX11_swingsOf
def lX11_swingsOf (L : Nat) (a : List Value) : Nat × Nat × Nat × List (Nat × Value) × List Value := match L with
  | 0 => (0, 0, 0, lv_args 0 a, [])
  | _ => (0, 0, 0, [], [])
theorem pX11_swingsOf_0 {Γ : CT} (hC : Ctx Γ "SpiritWallModel" cX11_swingsOf 3 (some .int) rmX11_swingsOf) (hnt : NT Γ) (J : JT) (hJ : ∀ L a, Cor Γ 3 (lX11_swingsOf L a).1 (lX11_swingsOf L a).2.1 (lX11_swingsOf L a).2.2.1 (lX11_swingsOf L a).2.2.2.1 (lX11_swingsOf L a).2.2.2.2 (J L a)) (a : List Value) : Cor Γ 3 0 0 0 (lv_args 0 a) [] (bX11_swingsOf_0 J a) := by
  unfold bX11_swingsOf_0
  split
  · rename_i x0 x1 x2
    refine c_sub [0, 1, 2] rfl (loc' := [(0, .ref x0), (1, .int x1), (2, .int x2)]) ?_
    refine q_aload_n hC 0 dX11_swingsOf_0 rfl rfl ?_
    refine q_iload_n hC 1 dX11_swingsOf_1 rfl rfl ?_
    refine q_iload_n hC 2 dX11_swingsOf_2 rfl rfl ?_
    refine q_cVI hC hnt (stk := []) (as := [.int x1, .int x2]) sX11_distance (ci := 11) (by decide) rfl nX11_distance rfl w_867 w_869 w_870 w_830 w_868 (Nat.le_of_ble_eq_true rfl) dX11_swingsOf_3 rfl (fun v1 => ?_)
    refine q_aload_n hC 0 dX11_swingsOf_6 rfl rfl ?_
    refine q_getR hC (by decide) (by decide) rfl w_808 dX11_swingsOf_7 (fun r2 => ?_)
    refine q_iconst hC dX11_swingsOf_10 rfl ?_
    refine q_iald hC dX11_swingsOf_11 (fun v3 => ?_)
    refine q_iadd hC dX11_swingsOf_12 ?_
    refine q_iconst hC dX11_swingsOf_13 rfl ?_
    refine q_isub hC dX11_swingsOf_14 ?_
    refine q_aload_n hC 0 dX11_swingsOf_15 rfl rfl ?_
    refine q_getR hC (by decide) (by decide) rfl w_808 dX11_swingsOf_16 (fun r4 => ?_)
    refine q_iconst hC dX11_swingsOf_19 rfl ?_
    refine q_iald hC dX11_swingsOf_20 (fun v5 => ?_)
    refine q_idiv hC dX11_swingsOf_21 ?_
    exact q_iret hC dX11_swingsOf_22 (Nat.le_of_ble_eq_true rfl) (Nat.le_of_ble_eq_true rfl)
  · exact c_no
theorem sX11_swingsOf : Snd yX11_swingsOf (.code yX11_swingsOf cX11_swingsOf 3 (some .int)) rmX11_swingsOf SX11_swingsOf := by
  refine Snd.of lX11_swingsOf (by decide +kernel) (fun _ => rfl) ?_
  intro Γ hC hnt hnm J hJ L a
  match L with
  | 0 => exact pX11_swingsOf_0 hC hnt J hJ a
  | L + 1 => exact c_no
/-! SpiritWallModel.isOdd(II)Z -/
theorem dX11_isOdd_0 : decode cX11_isOdd 0 = .ok (.aload_n 0, 1) := by decide +kernel
theorem dX11_isOdd_1 : decode cX11_isOdd 1 = .ok (.iload_n 1, 1) := by decide +kernel
theorem dX11_isOdd_2 : decode cX11_isOdd 2 = .ok (.iload_n 2, 1) := by decide +kernel
theorem dX11_isOdd_3 : decode cX11_isOdd 3 = .ok (.invokevirtual 116, 3) := by decide +kernel
theorem dX11_isOdd_6 : decode cX11_isOdd 6 = .ok (.iconst 2, 1) := by decide +kernel
theorem dX11_isOdd_7 : decode cX11_isOdd 7 = .ok (.irem, 1) := by decide +kernel
theorem dX11_isOdd_8 : decode cX11_isOdd 8 = .ok (.iconst 1, 1) := by decide +kernel
theorem dX11_isOdd_9 : decode cX11_isOdd 9 = .ok (.if_icmp .ne 7, 3) := by decide +kernel
theorem dX11_isOdd_12 : decode cX11_isOdd 12 = .ok (.iconst 1, 1) := by decide +kernel
theorem dX11_isOdd_13 : decode cX11_isOdd 13 = .ok (.goto 4, 3) := by decide +kernel
theorem dX11_isOdd_16 : decode cX11_isOdd 16 = .ok (.iconst 0, 1) := by decide +kernel
theorem dX11_isOdd_17 : decode cX11_isOdd 17 = .ok (.ireturn, 1) := by decide +kernel
def rmX11_isOdd : Room := rmk 9 0 0 216
theorem nX11_isOdd : nameOk yX11_isOdd 2 = true := by decide +kernel
def bX11_isOdd_0 (J : JT) : List Value → Sem
  | [.ref x0, .int x1, .int x2] =>
    ob 11 x0 (cI SX11_swingsOf [.ref x0, .int x1, .int x2] fun v1 =>
    nz 2 <|
    br ((v1 - v1 / 2 * 2) = (1 : Int32))
    (rZ 1)
    (rZ 0))
  | _ => no
def bX11_isOdd (J : JT) : JT := fun L a => match L with
  | 0 => bX11_isOdd_0 J a
  | _ => no
def SX11_isOdd : ST := mk 3 bX11_isOdd
def lX11_isOdd (L : Nat) (a : List Value) : Nat × Nat × Nat × List (Nat × Value) × List Value := match L with
  | 0 => (0, 0, 0, lv_args 0 a, [])
  | _ => (0, 0, 0, [], [])
theorem pX11_isOdd_0 {Γ : CT} (hC : Ctx Γ "SpiritWallModel" cX11_isOdd 3 (some .boolean) rmX11_isOdd) (hnt : NT Γ) (J : JT) (hJ : ∀ L a, Cor Γ 3 (lX11_isOdd L a).1 (lX11_isOdd L a).2.1 (lX11_isOdd L a).2.2.1 (lX11_isOdd L a).2.2.2.1 (lX11_isOdd L a).2.2.2.2 (J L a)) (a : List Value) : Cor Γ 3 0 0 0 (lv_args 0 a) [] (bX11_isOdd_0 J a) := by
  unfold bX11_isOdd_0
  split
  · rename_i x0 x1 x2
    refine c_sub [0, 1, 2] rfl (loc' := [(0, .ref x0), (1, .int x1), (2, .int x2)]) ?_
    refine q_aload_n hC 0 dX11_isOdd_0 rfl rfl ?_
    refine q_iload_n hC 1 dX11_isOdd_1 rfl rfl ?_
    refine q_iload_n hC 2 dX11_isOdd_2 rfl rfl ?_
    refine q_cVI hC hnt (stk := []) (as := [.int x1, .int x2]) sX11_swingsOf (ci := 11) (by decide) rfl nX11_swingsOf rfl w_871 w_873 w_874 w_830 w_872 (Nat.le_of_ble_eq_true rfl) dX11_isOdd_3 rfl (fun v1 => ?_)
    refine q_iconst hC dX11_isOdd_6 rfl ?_
    refine q_irem hC dX11_isOdd_7 ?_
    refine q_iconst hC dX11_isOdd_8 rfl ?_
    refine q_ic_ne hC 16 dX11_isOdd_9 rfl ?_ ?_
    · refine q_iconst hC dX11_isOdd_16 rfl ?_
      exact q_zret hC dX11_isOdd_17 (Nat.le_of_ble_eq_true rfl) (Nat.le_of_ble_eq_true rfl)
    · refine q_iconst hC dX11_isOdd_12 rfl ?_
      refine q_goto hC 17 dX11_isOdd_13 rfl ?_
      exact q_zret hC dX11_isOdd_17 (Nat.le_of_ble_eq_true rfl) (Nat.le_of_ble_eq_true rfl)
  · exact c_no
theorem sX11_isOdd : Snd yX11_isOdd (.code yX11_isOdd cX11_isOdd 3 (some .boolean)) rmX11_isOdd SX11_isOdd := by
  refine Snd.of lX11_isOdd (by decide +kernel) (fun _ => rfl) ?_
  intro Γ hC hnt hnm J hJ L a
  match L with
  | 0 => exact pX11_isOdd_0 hC hnt J hJ a
  | L + 1 => exact c_no
/-! SpiritWallModel.bendOf(I)I -/
theorem dX11_bendOf_0 : decode cX11_bendOf 0 = .ok (.aload_n 0, 1) := by decide +kernel
theorem dX11_bendOf_1 : decode cX11_bendOf 1 = .ok (.aload_n 0, 1) := by decide +kernel
theorem dX11_bendOf_2 : decode cX11_bendOf 2 = .ok (.iload_n 1, 1) := by decide +kernel
theorem dX11_bendOf_3 : decode cX11_bendOf 3 = .ok (.iconst 0, 1) := by decide +kernel
theorem dX11_bendOf_4 : decode cX11_bendOf 4 = .ok (.invokevirtual 100, 3) := by decide +kernel
theorem dX11_bendOf_7 : decode cX11_bendOf 7 = .ok (.aload_n 0, 1) := by decide +kernel
theorem dX11_bendOf_8 : decode cX11_bendOf 8 = .ok (.iload_n 1, 1) := by decide +kernel
theorem dX11_bendOf_9 : decode cX11_bendOf 9 = .ok (.iconst 1, 1) := by decide +kernel
theorem dX11_bendOf_10 : decode cX11_bendOf 10 = .ok (.invokevirtual 100, 3) := by decide +kernel
theorem dX11_bendOf_13 : decode cX11_bendOf 13 = .ok (.invokevirtual 113, 3) := by decide +kernel
theorem dX11_bendOf_16 : decode cX11_bendOf 16 = .ok (.i2l, 1) := by decide +kernel
theorem dX11_bendOf_17 : decode cX11_bendOf 17 = .ok (.lstore_n 2, 1) := by decide +kernel
theorem dX11_bendOf_18 : decode cX11_bendOf 18 = .ok (.aload_n 0, 1) := by decide +kernel
theorem dX11_bendOf_19 : decode cX11_bendOf 19 = .ok (.getfield 7, 3) := by decide +kernel
theorem dX11_bendOf_22 : decode cX11_bendOf 22 = .ok (.iconst 3, 1) := by decide +kernel
theorem dX11_bendOf_23 : decode cX11_bendOf 23 = .ok (.iaload, 1) := by decide +kernel
theorem dX11_bendOf_24 : decode cX11_bendOf 24 = .ok (.i2l, 1) := by decide +kernel
theorem dX11_bendOf_25 : decode cX11_bendOf 25 = .ok (.lload_n 2, 1) := by decide +kernel
theorem dX11_bendOf_26 : decode cX11_bendOf 26 = .ok (.lmul, 1) := by decide +kernel
theorem dX11_bendOf_27 : decode cX11_bendOf 27 = .ok (.lload_n 2, 1) := by decide +kernel
theorem dX11_bendOf_28 : decode cX11_bendOf 28 = .ok (.lmul, 1) := by decide +kernel
theorem dX11_bendOf_29 : decode cX11_bendOf 29 = .ok (.ldc2_w 119, 3) := by decide +kernel
theorem dX11_bendOf_32 : decode cX11_bendOf 32 = .ok (.ldiv, 1) := by decide +kernel
theorem dX11_bendOf_33 : decode cX11_bendOf 33 = .ok (.l2i, 1) := by decide +kernel
theorem dX11_bendOf_34 : decode cX11_bendOf 34 = .ok (.ireturn, 1) := by decide +kernel
def rmX11_bendOf : Room := rmk 8 0 0 194
theorem nX11_bendOf : nameOk yX11_bendOf 1 = true := by decide +kernel
def bX11_bendOf_0 (J : JT) : List Value → Sem
  | [.ref x0, .int x1] =>
    ob 11 x0 (cI SX11_ofSight [.ref x0, .int x1, .int 0] fun v1 =>
    ob 11 x0 (cI SX11_ofSight [.ref x0, .int x1, .int 1] fun v2 =>
    ob 11 x0 (cI SX11_distance [.ref x0, .int v1, .int v2] fun v3 =>
    lJ (v3.toInt64) fun y2_4 =>
    gR 11 1 x0 fun r5 =>
    aI r5 3 fun v6 =>
    nzl 100000000 <|
    rI (((((v6.toInt64) * y2_4) * y2_4) / 100000000).toInt32))))
  | _ => no
def bX11_bendOf (J : JT) : JT := fun L a => match L with
  | 0 => bX11_bendOf_0 J a
  | _ => no
def SX11_bendOf : ST := mk 4 bX11_bendOf
def lX11_bendOf (L : Nat) (a : List Value) : Nat × Nat × Nat × List (Nat × Value) × List Value := match L with
  | 0 => (0, 0, 0, lv_args 0 a, [])
  | _ => (0, 0, 0, [], [])
theorem pX11_bendOf_0 {Γ : CT} (hC : Ctx Γ "SpiritWallModel" cX11_bendOf 4 (some .int) rmX11_bendOf) (hnt : NT Γ) (J : JT) (hJ : ∀ L a, Cor Γ 4 (lX11_bendOf L a).1 (lX11_bendOf L a).2.1 (lX11_bendOf L a).2.2.1 (lX11_bendOf L a).2.2.2.1 (lX11_bendOf L a).2.2.2.2 (J L a)) (a : List Value) : Cor Γ 4 0 0 0 (lv_args 0 a) [] (bX11_bendOf_0 J a) := by
  unfold bX11_bendOf_0
  split
  · rename_i x0 x1
    refine c_sub [0, 1] rfl (loc' := [(0, .ref x0), (1, .int x1)]) ?_
    refine q_aload_n hC 0 dX11_bendOf_0 rfl rfl ?_
    refine q_aload_n hC 0 dX11_bendOf_1 rfl rfl ?_
    refine q_iload_n hC 1 dX11_bendOf_2 rfl rfl ?_
    refine q_iconst hC dX11_bendOf_3 rfl ?_
    refine q_cVI hC hnt (stk := [.ref x0]) (as := [.int x1, .int 0]) sX11_ofSight (ci := 11) (by decide) rfl nX11_ofSight rfl w_858 w_860 w_861 w_830 w_859 (Nat.le_of_ble_eq_true rfl) dX11_bendOf_4 rfl (fun v1 => ?_)
    refine q_aload_n hC 0 dX11_bendOf_7 rfl rfl ?_
    refine q_iload_n hC 1 dX11_bendOf_8 rfl rfl ?_
    refine q_iconst hC dX11_bendOf_9 rfl ?_
    refine q_cVI hC hnt (stk := [.int v1, .ref x0]) (as := [.int x1, .int 1]) sX11_ofSight (ci := 11) (by decide) rfl nX11_ofSight rfl w_858 w_860 w_861 w_830 w_859 (Nat.le_of_ble_eq_true rfl) dX11_bendOf_10 rfl (fun v2 => ?_)
    refine q_cVI hC hnt (stk := []) (as := [.int v1, .int v2]) sX11_distance (ci := 11) (by decide) rfl nX11_distance rfl w_867 w_869 w_870 w_830 w_868 (Nat.le_of_ble_eq_true rfl) dX11_bendOf_13 rfl (fun v3 => ?_)
    refine q_i2l hC dX11_bendOf_16 ?_
    refine q_lstore_n hC (fun y2_4 => [(2, .long y2_4), (0, .ref x0), (1, .int x1)]) dX11_bendOf_17 rfl (Nat.le_of_ble_eq_true rfl) (fun _ => rfl) (fun y2_4 => ?_)
    refine q_aload_n hC 1 dX11_bendOf_18 rfl rfl ?_
    refine q_getR hC (by decide) (by decide) rfl w_808 dX11_bendOf_19 (fun r5 => ?_)
    refine q_iconst hC dX11_bendOf_22 rfl ?_
    refine q_iald hC dX11_bendOf_23 (fun v6 => ?_)
    refine q_i2l hC dX11_bendOf_24 ?_
    refine q_lload_n hC 0 dX11_bendOf_25 rfl rfl ?_
    refine q_lmul hC dX11_bendOf_26 ?_
    refine q_lload_n hC 0 dX11_bendOf_27 rfl rfl ?_
    refine q_lmul hC dX11_bendOf_28 ?_
    refine q_ldc2 hC w_875 dX11_bendOf_29 ?_
    refine q_ldiv hC dX11_bendOf_32 ?_
    refine q_l2i hC dX11_bendOf_33 ?_
    exact q_iret hC dX11_bendOf_34 (Nat.le_of_ble_eq_true rfl) (Nat.le_of_ble_eq_true rfl)
  · exact c_no
theorem sX11_bendOf : Snd yX11_bendOf (.code yX11_bendOf cX11_bendOf 4 (some .int)) rmX11_bendOf SX11_bendOf := by
  refine Snd.of lX11_bendOf (by decide +kernel) (fun _ => rfl) ?_
  intro Γ hC hnt hnm J hJ L a
  match L with
  | 0 => exact pX11_bendOf_0 hC hnt J hJ a
  | L + 1 => exact c_no
/-! SpiritWallModel.warmthOf(I)I -/
theorem dX11_warmthOf_0 : decode cX11_warmthOf 0 = .ok (.aload_n 0, 1) := by decide +kernel
theorem dX11_warmthOf_1 : decode cX11_warmthOf 1 = .ok (.aload_n 0, 1) := by decide +kernel
theorem dX11_warmthOf_2 : decode cX11_warmthOf 2 = .ok (.iload_n 1, 1) := by decide +kernel
theorem dX11_warmthOf_3 : decode cX11_warmthOf 3 = .ok (.iconst 0, 1) := by decide +kernel
theorem dX11_warmthOf_4 : decode cX11_warmthOf 4 = .ok (.invokevirtual 100, 3) := by decide +kernel
theorem dX11_warmthOf_7 : decode cX11_warmthOf 7 = .ok (.aload_n 0, 1) := by decide +kernel
theorem dX11_warmthOf_8 : decode cX11_warmthOf 8 = .ok (.iload_n 1, 1) := by decide +kernel
theorem dX11_warmthOf_9 : decode cX11_warmthOf 9 = .ok (.iconst 1, 1) := by decide +kernel
theorem dX11_warmthOf_10 : decode cX11_warmthOf 10 = .ok (.invokevirtual 100, 3) := by decide +kernel
theorem dX11_warmthOf_13 : decode cX11_warmthOf 13 = .ok (.invokevirtual 113, 3) := by decide +kernel
theorem dX11_warmthOf_16 : decode cX11_warmthOf 16 = .ok (.i2l, 1) := by decide +kernel
theorem dX11_warmthOf_17 : decode cX11_warmthOf 17 = .ok (.lstore_n 2, 1) := by decide +kernel
theorem dX11_warmthOf_18 : decode cX11_warmthOf 18 = .ok (.aload_n 0, 1) := by decide +kernel
theorem dX11_warmthOf_19 : decode cX11_warmthOf 19 = .ok (.getfield 7, 3) := by decide +kernel
theorem dX11_warmthOf_22 : decode cX11_warmthOf 22 = .ok (.iconst 4, 1) := by decide +kernel
theorem dX11_warmthOf_23 : decode cX11_warmthOf 23 = .ok (.iaload, 1) := by decide +kernel
theorem dX11_warmthOf_24 : decode cX11_warmthOf 24 = .ok (.i2l, 1) := by decide +kernel
theorem dX11_warmthOf_25 : decode cX11_warmthOf 25 = .ok (.aload_n 0, 1) := by decide +kernel
theorem dX11_warmthOf_26 : decode cX11_warmthOf 26 = .ok (.iload_n 1, 1) := by decide +kernel
theorem dX11_warmthOf_27 : decode cX11_warmthOf 27 = .ok (.iconst 4, 1) := by decide +kernel
theorem dX11_warmthOf_28 : decode cX11_warmthOf 28 = .ok (.invokevirtual 100, 3) := by decide +kernel
theorem dX11_warmthOf_31 : decode cX11_warmthOf 31 = .ok (.bipush 20, 2) := by decide +kernel
theorem dX11_warmthOf_33 : decode cX11_warmthOf 33 = .ok (.isub, 1) := by decide +kernel
theorem dX11_warmthOf_34 : decode cX11_warmthOf 34 = .ok (.i2l, 1) := by decide +kernel
theorem dX11_warmthOf_35 : decode cX11_warmthOf 35 = .ok (.lmul, 1) := by decide +kernel
theorem dX11_warmthOf_36 : decode cX11_warmthOf 36 = .ok (.lload_n 2, 1) := by decide +kernel
theorem dX11_warmthOf_37 : decode cX11_warmthOf 37 = .ok (.lmul, 1) := by decide +kernel
theorem dX11_warmthOf_38 : decode cX11_warmthOf 38 = .ok (.ldc2_w 121, 3) := by decide +kernel
theorem dX11_warmthOf_41 : decode cX11_warmthOf 41 = .ok (.invokestatic 123, 3) := by decide +kernel
theorem dX11_warmthOf_44 : decode cX11_warmthOf 44 = .ok (.l2i, 1) := by decide +kernel
theorem dX11_warmthOf_45 : decode cX11_warmthOf 45 = .ok (.ireturn, 1) := by decide +kernel
def rmX11_warmthOf : Room := rmk 8 0 0 194
theorem nX11_warmthOf : nameOk yX11_warmthOf 1 = true := by decide +kernel
def bX11_warmthOf_0 (J : JT) : List Value → Sem
  | [.ref x0, .int x1] =>
    ob 11 x0 (cI SX11_ofSight [.ref x0, .int x1, .int 0] fun v1 =>
    ob 11 x0 (cI SX11_ofSight [.ref x0, .int x1, .int 1] fun v2 =>
    ob 11 x0 (cI SX11_distance [.ref x0, .int v1, .int v2] fun v3 =>
    lJ (v3.toInt64) fun y2_4 =>
    gR 11 1 x0 fun r5 =>
    aI r5 4 fun v6 =>
    ob 11 x0 (cI SX11_ofSight [.ref x0, .int x1, .int 4] fun v7 =>
    cJ SJ9_floorDiv_f86c9 [.long (((v6.toInt64) * ((v7 - 20).toInt64)) * y2_4), .long 100000] fun v8 =>
    rI (v8.toInt32)))))
  | _ => no
def bX11_warmthOf (J : JT) : JT := fun L a => match L with
  | 0 => bX11_warmthOf_0 J a
  | _ => no
def SX11_warmthOf : ST := mk 4 bX11_warmthOf
def lX11_warmthOf (L : Nat) (a : List Value) : Nat × Nat × Nat × List (Nat × Value) × List Value := match L with
  | 0 => (0, 0, 0, lv_args 0 a, [])
  | _ => (0, 0, 0, [], [])
theorem pX11_warmthOf_0 {Γ : CT} (hC : Ctx Γ "SpiritWallModel" cX11_warmthOf 4 (some .int) rmX11_warmthOf) (hnt : NT Γ) (J : JT) (hJ : ∀ L a, Cor Γ 4 (lX11_warmthOf L a).1 (lX11_warmthOf L a).2.1 (lX11_warmthOf L a).2.2.1 (lX11_warmthOf L a).2.2.2.1 (lX11_warmthOf L a).2.2.2.2 (J L a)) (a : List Value) : Cor Γ 4 0 0 0 (lv_args 0 a) [] (bX11_warmthOf_0 J a) := by
  unfold bX11_warmthOf_0
  split
  · rename_i x0 x1
    refine c_sub [0, 1] rfl (loc' := [(0, .ref x0), (1, .int x1)]) ?_
    refine q_aload_n hC 0 dX11_warmthOf_0 rfl rfl ?_
    refine q_aload_n hC 0 dX11_warmthOf_1 rfl rfl ?_
    refine q_iload_n hC 1 dX11_warmthOf_2 rfl rfl ?_
    refine q_iconst hC dX11_warmthOf_3 rfl ?_
    refine q_cVI hC hnt (stk := [.ref x0]) (as := [.int x1, .int 0]) sX11_ofSight (ci := 11) (by decide) rfl nX11_ofSight rfl w_858 w_860 w_861 w_830 w_859 (Nat.le_of_ble_eq_true rfl) dX11_warmthOf_4 rfl (fun v1 => ?_)
    refine q_aload_n hC 0 dX11_warmthOf_7 rfl rfl ?_
    refine q_iload_n hC 1 dX11_warmthOf_8 rfl rfl ?_
    refine q_iconst hC dX11_warmthOf_9 rfl ?_
    refine q_cVI hC hnt (stk := [.int v1, .ref x0]) (as := [.int x1, .int 1]) sX11_ofSight (ci := 11) (by decide) rfl nX11_ofSight rfl w_858 w_860 w_861 w_830 w_859 (Nat.le_of_ble_eq_true rfl) dX11_warmthOf_10 rfl (fun v2 => ?_)
    refine q_cVI hC hnt (stk := []) (as := [.int v1, .int v2]) sX11_distance (ci := 11) (by decide) rfl nX11_distance rfl w_867 w_869 w_870 w_830 w_868 (Nat.le_of_ble_eq_true rfl) dX11_warmthOf_13 rfl (fun v3 => ?_)
    refine q_i2l hC dX11_warmthOf_16 ?_
    refine q_lstore_n hC (fun y2_4 => [(2, .long y2_4), (0, .ref x0), (1, .int x1)]) dX11_warmthOf_17 rfl (Nat.le_of_ble_eq_true rfl) (fun _ => rfl) (fun y2_4 => ?_)
    refine q_aload_n hC 1 dX11_warmthOf_18 rfl rfl ?_
    refine q_getR hC (by decide) (by decide) rfl w_808 dX11_warmthOf_19 (fun r5 => ?_)
    refine q_iconst hC dX11_warmthOf_22 rfl ?_
    refine q_iald hC dX11_warmthOf_23 (fun v6 => ?_)
    refine q_i2l hC dX11_warmthOf_24 ?_
    refine q_aload_n hC 1 dX11_warmthOf_25 rfl rfl ?_
    refine q_iload_n hC 2 dX11_warmthOf_26 rfl rfl ?_
    refine q_iconst hC dX11_warmthOf_27 rfl ?_
    refine q_cVI hC hnt (stk := [.long (v6.toInt64)]) (as := [.int x1, .int 4]) sX11_ofSight (ci := 11) (by decide) rfl nX11_ofSight rfl w_858 w_860 w_861 w_830 w_859 (Nat.le_of_ble_eq_true rfl) dX11_warmthOf_28 rfl (fun v7 => ?_)
    refine q_bipush hC (v := 20) dX11_warmthOf_31 rfl ?_
    refine q_isub hC dX11_warmthOf_33 ?_
    refine q_i2l hC dX11_warmthOf_34 ?_
    refine q_lmul hC dX11_warmthOf_35 ?_
    refine q_lload_n hC 0 dX11_warmthOf_36 rfl rfl ?_
    refine q_lmul hC dX11_warmthOf_37 ?_
    refine q_ldc2 hC w_876 dX11_warmthOf_38 ?_
    refine q_cSJ hC hnt (stk := []) (as := [.long (((v6.toInt64) * ((v7 - 20).toInt64)) * y2_4), .long 100000]) sJ9_floorDiv_f86c9 nJ9_floorDiv_f86c9 rfl w_877 w_350 w_351 w_349 (Nat.le_of_ble_eq_true rfl) dX11_warmthOf_41 rfl (fun v8 => ?_)
    refine q_l2i hC dX11_warmthOf_44 ?_
    exact q_iret hC dX11_warmthOf_45 (Nat.le_of_ble_eq_true rfl) (Nat.le_of_ble_eq_true rfl)
  · exact c_no
theorem sX11_warmthOf : Snd yX11_warmthOf (.code yX11_warmthOf cX11_warmthOf 4 (some .int)) rmX11_warmthOf SX11_warmthOf := by
  refine Snd.of lX11_warmthOf (by decide +kernel) (fun _ => rfl) ?_
  intro Γ hC hnt hnm J hJ L a
  match L with
  | 0 => exact pX11_warmthOf_0 hC hnt J hJ a
  | L + 1 => exact c_no
/-! SpiritWallModel.pureOf(I)I -/
theorem dX11_pureOf_0 : decode cX11_pureOf 0 = .ok (.aload_n 0, 1) := by decide +kernel
theorem dX11_pureOf_1 : decode cX11_pureOf 1 = .ok (.iload_n 1, 1) := by decide +kernel
theorem dX11_pureOf_2 : decode cX11_pureOf 2 = .ok (.iconst 3, 1) := by decide +kernel
theorem dX11_pureOf_3 : decode cX11_pureOf 3 = .ok (.invokevirtual 100, 3) := by decide +kernel
theorem dX11_pureOf_6 : decode cX11_pureOf 6 = .ok (.aload_n 0, 1) := by decide +kernel
theorem dX11_pureOf_7 : decode cX11_pureOf 7 = .ok (.iload_n 1, 1) := by decide +kernel
theorem dX11_pureOf_8 : decode cX11_pureOf 8 = .ok (.invokevirtual 127, 3) := by decide +kernel
theorem dX11_pureOf_11 : decode cX11_pureOf 11 = .ok (.isub, 1) := by decide +kernel
theorem dX11_pureOf_12 : decode cX11_pureOf 12 = .ok (.aload_n 0, 1) := by decide +kernel
theorem dX11_pureOf_13 : decode cX11_pureOf 13 = .ok (.iload_n 1, 1) := by decide +kernel
theorem dX11_pureOf_14 : decode cX11_pureOf 14 = .ok (.invokevirtual 130, 3) := by decide +kernel
theorem dX11_pureOf_17 : decode cX11_pureOf 17 = .ok (.isub, 1) := by decide +kernel
theorem dX11_pureOf_18 : decode cX11_pureOf 18 = .ok (.ireturn, 1) := by decide +kernel
def rmX11_pureOf : Room := rmk 9 0 0 217
theorem nX11_pureOf : nameOk yX11_pureOf 1 = true := by decide +kernel
def bX11_pureOf_0 (J : JT) : List Value → Sem
  | [.ref x0, .int x1] =>
    ob 11 x0 (cI SX11_ofSight [.ref x0, .int x1, .int 3] fun v1 =>
    ob 11 x0 (cI SX11_bendOf [.ref x0, .int x1] fun v2 =>
    ob 11 x0 (cI SX11_warmthOf [.ref x0, .int x1] fun v3 =>
    rI ((v1 - v2) - v3))))
  | _ => no
def bX11_pureOf (J : JT) : JT := fun L a => match L with
  | 0 => bX11_pureOf_0 J a
  | _ => no
def SX11_pureOf : ST := mk 2 bX11_pureOf
def lX11_pureOf (L : Nat) (a : List Value) : Nat × Nat × Nat × List (Nat × Value) × List Value := match L with
  | 0 => (0, 0, 0, lv_args 0 a, [])
  | _ => (0, 0, 0, [], [])
theorem pX11_pureOf_0 {Γ : CT} (hC : Ctx Γ "SpiritWallModel" cX11_pureOf 2 (some .int) rmX11_pureOf) (hnt : NT Γ) (J : JT) (hJ : ∀ L a, Cor Γ 2 (lX11_pureOf L a).1 (lX11_pureOf L a).2.1 (lX11_pureOf L a).2.2.1 (lX11_pureOf L a).2.2.2.1 (lX11_pureOf L a).2.2.2.2 (J L a)) (a : List Value) : Cor Γ 2 0 0 0 (lv_args 0 a) [] (bX11_pureOf_0 J a) := by
  unfold bX11_pureOf_0
  split
  · rename_i x0 x1
    refine c_sub [0, 1] rfl (loc' := [(0, .ref x0), (1, .int x1)]) ?_
    refine q_aload_n hC 0 dX11_pureOf_0 rfl rfl ?_
    refine q_iload_n hC 1 dX11_pureOf_1 rfl rfl ?_
    refine q_iconst hC dX11_pureOf_2 rfl ?_
    refine q_cVI hC hnt (stk := []) (as := [.int x1, .int 3]) sX11_ofSight (ci := 11) (by decide) rfl nX11_ofSight rfl w_858 w_860 w_861 w_830 w_859 (Nat.le_of_ble_eq_true rfl) dX11_pureOf_3 rfl (fun v1 => ?_)
    refine q_aload_n hC 0 dX11_pureOf_6 rfl rfl ?_
    refine q_iload_n hC 1 dX11_pureOf_7 rfl rfl ?_
    refine q_cVI hC hnt (stk := [.int v1]) (as := [.int x1]) sX11_bendOf (ci := 11) (by decide) rfl nX11_bendOf rfl w_878 w_880 w_881 w_830 w_879 (Nat.le_of_ble_eq_true rfl) dX11_pureOf_8 rfl (fun v2 => ?_)
    refine q_isub hC dX11_pureOf_11 ?_
    refine q_aload_n hC 0 dX11_pureOf_12 rfl rfl ?_
    refine q_iload_n hC 1 dX11_pureOf_13 rfl rfl ?_
    refine q_cVI hC hnt (stk := [.int (v1 - v2)]) (as := [.int x1]) sX11_warmthOf (ci := 11) (by decide) rfl nX11_warmthOf rfl w_882 w_884 w_885 w_830 w_883 (Nat.le_of_ble_eq_true rfl) dX11_pureOf_14 rfl (fun v3 => ?_)
    refine q_isub hC dX11_pureOf_17 ?_
    exact q_iret hC dX11_pureOf_18 (Nat.le_of_ble_eq_true rfl) (Nat.le_of_ble_eq_true rfl)
  · exact c_no
theorem sX11_pureOf : Snd yX11_pureOf (.code yX11_pureOf cX11_pureOf 2 (some .int)) rmX11_pureOf SX11_pureOf := by
  refine Snd.of lX11_pureOf (by decide +kernel) (fun _ => rfl) ?_
  intro Γ hC hnt hnm J hJ L a
  match L with
  | 0 => exact pX11_pureOf_0 hC hnt J hJ a
  | L + 1 => exact c_no
/-! SpiritWallModel.pairOf(II)I -/
theorem dX11_pairOf_0 : decode cX11_pairOf 0 = .ok (.iload_n 0, 1) := by decide +kernel
theorem dX11_pairOf_1 : decode cX11_pairOf 1 = .ok (.iload_n 1, 1) := by decide +kernel
theorem dX11_pairOf_2 : decode cX11_pairOf 2 = .ok (.if_icmp .ge 12, 3) := by decide +kernel
theorem dX11_pairOf_5 : decode cX11_pairOf 5 = .ok (.bipush 12, 2) := by decide +kernel
theorem dX11_pairOf_7 : decode cX11_pairOf 7 = .ok (.iload_n 0, 1) := by decide +kernel
theorem dX11_pairOf_8 : decode cX11_pairOf 8 = .ok (.imul, 1) := by decide +kernel
theorem dX11_pairOf_9 : decode cX11_pairOf 9 = .ok (.iload_n 1, 1) := by decide +kernel
theorem dX11_pairOf_10 : decode cX11_pairOf 10 = .ok (.iadd, 1) := by decide +kernel
theorem dX11_pairOf_11 : decode cX11_pairOf 11 = .ok (.goto 9, 3) := by decide +kernel
theorem dX11_pairOf_14 : decode cX11_pairOf 14 = .ok (.bipush 12, 2) := by decide +kernel
theorem dX11_pairOf_16 : decode cX11_pairOf 16 = .ok (.iload_n 1, 1) := by decide +kernel
theorem dX11_pairOf_17 : decode cX11_pairOf 17 = .ok (.imul, 1) := by decide +kernel
theorem dX11_pairOf_18 : decode cX11_pairOf 18 = .ok (.iload_n 0, 1) := by decide +kernel
theorem dX11_pairOf_19 : decode cX11_pairOf 19 = .ok (.iadd, 1) := by decide +kernel
theorem dX11_pairOf_20 : decode cX11_pairOf 20 = .ok (.ireturn, 1) := by decide +kernel
def rmX11_pairOf : Room := rmk 6 0 0 150
theorem nX11_pairOf : nameOk yX11_pairOf 2 = true := by decide +kernel
def bX11_pairOf_0 (J : JT) : List Value → Sem
  | [.int x0, .int x1] =>
    br (x1 ≤ x0)
    (rI ((12 * x1) + x0))
    (rI ((12 * x0) + x1))
  | _ => no
def bX11_pairOf (J : JT) : JT := fun L a => match L with
  | 0 => bX11_pairOf_0 J a
  | _ => no
def SX11_pairOf : ST := mk 2 bX11_pairOf
def lX11_pairOf (L : Nat) (a : List Value) : Nat × Nat × Nat × List (Nat × Value) × List Value := match L with
  | 0 => (0, 0, 0, lv_args 0 a, [])
  | _ => (0, 0, 0, [], [])
theorem pX11_pairOf_0 {Γ : CT} (hC : Ctx Γ "SpiritWallModel" cX11_pairOf 2 (some .int) rmX11_pairOf) (hnt : NT Γ) (J : JT) (hJ : ∀ L a, Cor Γ 2 (lX11_pairOf L a).1 (lX11_pairOf L a).2.1 (lX11_pairOf L a).2.2.1 (lX11_pairOf L a).2.2.2.1 (lX11_pairOf L a).2.2.2.2 (J L a)) (a : List Value) : Cor Γ 2 0 0 0 (lv_args 0 a) [] (bX11_pairOf_0 J a) := by
  unfold bX11_pairOf_0
  split
  · rename_i x0 x1
    refine c_sub [0, 1] rfl (loc' := [(0, .int x0), (1, .int x1)]) ?_
    refine q_iload_n hC 0 dX11_pairOf_0 rfl rfl ?_
    refine q_iload_n hC 1 dX11_pairOf_1 rfl rfl ?_
    refine q_ic_ge hC 14 dX11_pairOf_2 rfl ?_ ?_
    · refine q_bipush hC (v := 12) dX11_pairOf_14 rfl ?_
      refine q_iload_n hC 1 dX11_pairOf_16 rfl rfl ?_
      refine q_imul hC dX11_pairOf_17 ?_
      refine q_iload_n hC 0 dX11_pairOf_18 rfl rfl ?_
      refine q_iadd hC dX11_pairOf_19 ?_
      exact q_iret hC dX11_pairOf_20 (Nat.le_of_ble_eq_true rfl) (Nat.le_of_ble_eq_true rfl)
    · refine q_bipush hC (v := 12) dX11_pairOf_5 rfl ?_
      refine q_iload_n hC 0 dX11_pairOf_7 rfl rfl ?_
      refine q_imul hC dX11_pairOf_8 ?_
      refine q_iload_n hC 1 dX11_pairOf_9 rfl rfl ?_
      refine q_iadd hC dX11_pairOf_10 ?_
      refine q_goto hC 20 dX11_pairOf_11 rfl ?_
      exact q_iret hC dX11_pairOf_20 (Nat.le_of_ble_eq_true rfl) (Nat.le_of_ble_eq_true rfl)
  · exact c_no
theorem sX11_pairOf : Snd yX11_pairOf (.code yX11_pairOf cX11_pairOf 2 (some .int)) rmX11_pairOf SX11_pairOf := by
  refine Snd.of lX11_pairOf (by decide +kernel) (fun _ => rfl) ?_
  intro Γ hC hnt hnm J hJ L a
  match L with
  | 0 => exact pX11_pairOf_0 hC hnt J hJ a
  | L + 1 => exact c_no
/-! SpiritWallModel.pairOfSight(I)I -/
theorem dX11_pairOfSight_0 : decode cX11_pairOfSight 0 = .ok (.aload_n 0, 1) := by decide +kernel
theorem dX11_pairOfSight_1 : decode cX11_pairOfSight 1 = .ok (.iload_n 1, 1) := by decide +kernel
theorem dX11_pairOfSight_2 : decode cX11_pairOfSight 2 = .ok (.iconst 0, 1) := by decide +kernel
theorem dX11_pairOfSight_3 : decode cX11_pairOfSight 3 = .ok (.invokevirtual 100, 3) := by decide +kernel
theorem dX11_pairOfSight_6 : decode cX11_pairOfSight 6 = .ok (.aload_n 0, 1) := by decide +kernel
theorem dX11_pairOfSight_7 : decode cX11_pairOfSight 7 = .ok (.iload_n 1, 1) := by decide +kernel
theorem dX11_pairOfSight_8 : decode cX11_pairOfSight 8 = .ok (.iconst 1, 1) := by decide +kernel
theorem dX11_pairOfSight_9 : decode cX11_pairOfSight 9 = .ok (.invokevirtual 100, 3) := by decide +kernel
theorem dX11_pairOfSight_12 : decode cX11_pairOfSight 12 = .ok (.invokestatic 133, 3) := by decide +kernel
theorem dX11_pairOfSight_15 : decode cX11_pairOfSight 15 = .ok (.ireturn, 1) := by decide +kernel
def rmX11_pairOfSight : Room := rmk 7 0 0 172
theorem nX11_pairOfSight : nameOk yX11_pairOfSight 1 = true := by decide +kernel
def bX11_pairOfSight_0 (J : JT) : List Value → Sem
  | [.ref x0, .int x1] =>
    ob 11 x0 (cI SX11_ofSight [.ref x0, .int x1, .int 0] fun v1 =>
    ob 11 x0 (cI SX11_ofSight [.ref x0, .int x1, .int 1] fun v2 =>
    cI SX11_pairOf [.int v1, .int v2] fun v3 =>
    rI v3))
  | _ => no
def bX11_pairOfSight (J : JT) : JT := fun L a => match L with
  | 0 => bX11_pairOfSight_0 J a
  | _ => no
def SX11_pairOfSight : ST := mk 2 bX11_pairOfSight
def lX11_pairOfSight (L : Nat) (a : List Value) : Nat × Nat × Nat × List (Nat × Value) × List Value := match L with
  | 0 => (0, 0, 0, lv_args 0 a, [])
  | _ => (0, 0, 0, [], [])
theorem pX11_pairOfSight_0 {Γ : CT} (hC : Ctx Γ "SpiritWallModel" cX11_pairOfSight 2 (some .int) rmX11_pairOfSight) (hnt : NT Γ) (J : JT) (hJ : ∀ L a, Cor Γ 2 (lX11_pairOfSight L a).1 (lX11_pairOfSight L a).2.1 (lX11_pairOfSight L a).2.2.1 (lX11_pairOfSight L a).2.2.2.1 (lX11_pairOfSight L a).2.2.2.2 (J L a)) (a : List Value) : Cor Γ 2 0 0 0 (lv_args 0 a) [] (bX11_pairOfSight_0 J a) := by
  unfold bX11_pairOfSight_0
  split
  · rename_i x0 x1
    refine c_sub [0, 1] rfl (loc' := [(0, .ref x0), (1, .int x1)]) ?_
    refine q_aload_n hC 0 dX11_pairOfSight_0 rfl rfl ?_
    refine q_iload_n hC 1 dX11_pairOfSight_1 rfl rfl ?_
    refine q_iconst hC dX11_pairOfSight_2 rfl ?_
    refine q_cVI hC hnt (stk := []) (as := [.int x1, .int 0]) sX11_ofSight (ci := 11) (by decide) rfl nX11_ofSight rfl w_858 w_860 w_861 w_830 w_859 (Nat.le_of_ble_eq_true rfl) dX11_pairOfSight_3 rfl (fun v1 => ?_)
    refine q_aload_n hC 0 dX11_pairOfSight_6 rfl rfl ?_
    refine q_iload_n hC 1 dX11_pairOfSight_7 rfl rfl ?_
    refine q_iconst hC dX11_pairOfSight_8 rfl ?_
    refine q_cVI hC hnt (stk := [.int v1]) (as := [.int x1, .int 1]) sX11_ofSight (ci := 11) (by decide) rfl nX11_ofSight rfl w_858 w_860 w_861 w_830 w_859 (Nat.le_of_ble_eq_true rfl) dX11_pairOfSight_9 rfl (fun v2 => ?_)
    refine q_cSI hC hnt (stk := []) (as := [.int v1, .int v2]) sX11_pairOf nX11_pairOf rfl w_886 w_888 w_830 w_887 (Nat.le_of_ble_eq_true rfl) dX11_pairOfSight_12 rfl (fun v3 => ?_)
    exact q_iret hC dX11_pairOfSight_15 (Nat.le_of_ble_eq_true rfl) (Nat.le_of_ble_eq_true rfl)
  · exact c_no
theorem sX11_pairOfSight : Snd yX11_pairOfSight (.code yX11_pairOfSight cX11_pairOfSight 2 (some .int)) rmX11_pairOfSight SX11_pairOfSight := by
  refine Snd.of lX11_pairOfSight (by decide +kernel) (fun _ => rfl) ?_
  intro Γ hC hnt hnm J hJ L a
  match L with
  | 0 => exact pX11_pairOfSight_0 hC hnt J hJ a
  | L + 1 => exact c_no
/-! SpiritWallModel.goesUp(I)Z -/
theorem dX11_goesUp_0 : decode cX11_goesUp 0 = .ok (.aload_n 0, 1) := by decide +kernel
theorem dX11_goesUp_1 : decode cX11_goesUp 1 = .ok (.iload_n 1, 1) := by decide +kernel
theorem dX11_goesUp_2 : decode cX11_goesUp 2 = .ok (.iconst 0, 1) := by decide +kernel
theorem dX11_goesUp_3 : decode cX11_goesUp 3 = .ok (.invokevirtual 100, 3) := by decide +kernel
theorem dX11_goesUp_6 : decode cX11_goesUp 6 = .ok (.aload_n 0, 1) := by decide +kernel
theorem dX11_goesUp_7 : decode cX11_goesUp 7 = .ok (.iload_n 1, 1) := by decide +kernel
theorem dX11_goesUp_8 : decode cX11_goesUp 8 = .ok (.iconst 1, 1) := by decide +kernel
theorem dX11_goesUp_9 : decode cX11_goesUp 9 = .ok (.invokevirtual 100, 3) := by decide +kernel
theorem dX11_goesUp_12 : decode cX11_goesUp 12 = .ok (.if_icmp .ge 7, 3) := by decide +kernel
theorem dX11_goesUp_15 : decode cX11_goesUp 15 = .ok (.iconst 1, 1) := by decide +kernel
theorem dX11_goesUp_16 : decode cX11_goesUp 16 = .ok (.goto 4, 3) := by decide +kernel
theorem dX11_goesUp_19 : decode cX11_goesUp 19 = .ok (.iconst 0, 1) := by decide +kernel
theorem dX11_goesUp_20 : decode cX11_goesUp 20 = .ok (.ireturn, 1) := by decide +kernel
def rmX11_goesUp : Room := rmk 7 0 0 172
theorem nX11_goesUp : nameOk yX11_goesUp 1 = true := by decide +kernel
def bX11_goesUp_0 (J : JT) : List Value → Sem
  | [.ref x0, .int x1] =>
    ob 11 x0 (cI SX11_ofSight [.ref x0, .int x1, .int 0] fun v1 =>
    ob 11 x0 (cI SX11_ofSight [.ref x0, .int x1, .int 1] fun v2 =>
    br (v2 ≤ v1)
    (rZ 0)
    (rZ 1)))
  | _ => no
def bX11_goesUp (J : JT) : JT := fun L a => match L with
  | 0 => bX11_goesUp_0 J a
  | _ => no
def SX11_goesUp : ST := mk 2 bX11_goesUp
def lX11_goesUp (L : Nat) (a : List Value) : Nat × Nat × Nat × List (Nat × Value) × List Value := match L with
  | 0 => (0, 0, 0, lv_args 0 a, [])
  | _ => (0, 0, 0, [], [])
theorem pX11_goesUp_0 {Γ : CT} (hC : Ctx Γ "SpiritWallModel" cX11_goesUp 2 (some .boolean) rmX11_goesUp) (hnt : NT Γ) (J : JT) (hJ : ∀ L a, Cor Γ 2 (lX11_goesUp L a).1 (lX11_goesUp L a).2.1 (lX11_goesUp L a).2.2.1 (lX11_goesUp L a).2.2.2.1 (lX11_goesUp L a).2.2.2.2 (J L a)) (a : List Value) : Cor Γ 2 0 0 0 (lv_args 0 a) [] (bX11_goesUp_0 J a) := by
  unfold bX11_goesUp_0
  split
  · rename_i x0 x1
    refine c_sub [0, 1] rfl (loc' := [(0, .ref x0), (1, .int x1)]) ?_
    refine q_aload_n hC 0 dX11_goesUp_0 rfl rfl ?_
    refine q_iload_n hC 1 dX11_goesUp_1 rfl rfl ?_
    refine q_iconst hC dX11_goesUp_2 rfl ?_
    refine q_cVI hC hnt (stk := []) (as := [.int x1, .int 0]) sX11_ofSight (ci := 11) (by decide) rfl nX11_ofSight rfl w_858 w_860 w_861 w_830 w_859 (Nat.le_of_ble_eq_true rfl) dX11_goesUp_3 rfl (fun v1 => ?_)
    refine q_aload_n hC 0 dX11_goesUp_6 rfl rfl ?_
    refine q_iload_n hC 1 dX11_goesUp_7 rfl rfl ?_
    refine q_iconst hC dX11_goesUp_8 rfl ?_
    refine q_cVI hC hnt (stk := [.int v1]) (as := [.int x1, .int 1]) sX11_ofSight (ci := 11) (by decide) rfl nX11_ofSight rfl w_858 w_860 w_861 w_830 w_859 (Nat.le_of_ble_eq_true rfl) dX11_goesUp_9 rfl (fun v2 => ?_)
    refine q_ic_ge hC 19 dX11_goesUp_12 rfl ?_ ?_
    · refine q_iconst hC dX11_goesUp_19 rfl ?_
      exact q_zret hC dX11_goesUp_20 (Nat.le_of_ble_eq_true rfl) (Nat.le_of_ble_eq_true rfl)
    · refine q_iconst hC dX11_goesUp_15 rfl ?_
      refine q_goto hC 20 dX11_goesUp_16 rfl ?_
      exact q_zret hC dX11_goesUp_20 (Nat.le_of_ble_eq_true rfl) (Nat.le_of_ble_eq_true rfl)
  · exact c_no
theorem sX11_goesUp : Snd yX11_goesUp (.code yX11_goesUp cX11_goesUp 2 (some .boolean)) rmX11_goesUp SX11_goesUp := by
  refine Snd.of lX11_goesUp (by decide +kernel) (fun _ => rfl) ?_
  intro Γ hC hnt hnm J hJ L a
  match L with
  | 0 => exact pX11_goesUp_0 hC hnt J hJ a
  | L + 1 => exact c_no
