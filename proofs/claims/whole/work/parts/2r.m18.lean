/-! SpiritWallModel.wordHere()I -/
theorem dX11_wordHere_0 : decode cX11_wordHere 0 = .ok (.iconst 0, 1) := by decide +kernel
theorem dX11_wordHere_1 : decode cX11_wordHere 1 = .ok (.istore_n 1, 1) := by decide +kernel
theorem dX11_wordHere_2 : decode cX11_wordHere 2 = .ok (.iconst 0, 1) := by decide +kernel
theorem dX11_wordHere_3 : decode cX11_wordHere 3 = .ok (.istore_n 2, 1) := by decide +kernel
theorem dX11_wordHere_4 : decode cX11_wordHere 4 = .ok (.iload_n 2, 1) := by decide +kernel
theorem dX11_wordHere_5 : decode cX11_wordHere 5 = .ok (.ldc_w 425, 3) := by decide +kernel
theorem dX11_wordHere_8 : decode cX11_wordHere 8 = .ok (.invokevirtual 427, 3) := by decide +kernel
theorem dX11_wordHere_11 : decode cX11_wordHere 11 = .ok (.if_icmp .ge 121, 3) := by decide +kernel
theorem dX11_wordHere_14 : decode cX11_wordHere 14 = .ok (.iconst 0, 1) := by decide +kernel
theorem dX11_wordHere_15 : decode cX11_wordHere 15 = .ok (.istore_n 3, 1) := by decide +kernel
theorem dX11_wordHere_16 : decode cX11_wordHere 16 = .ok (.ldc_w 425, 3) := by decide +kernel
theorem dX11_wordHere_19 : decode cX11_wordHere 19 = .ok (.iload_n 2, 1) := by decide +kernel
theorem dX11_wordHere_20 : decode cX11_wordHere 20 = .ok (.iload_n 3, 1) := by decide +kernel
theorem dX11_wordHere_21 : decode cX11_wordHere 21 = .ok (.iadd, 1) := by decide +kernel
theorem dX11_wordHere_22 : decode cX11_wordHere 22 = .ok (.invokevirtual 431, 3) := by decide +kernel
theorem dX11_wordHere_25 : decode cX11_wordHere 25 = .ok (.bipush 32, 2) := by decide +kernel
theorem dX11_wordHere_27 : decode cX11_wordHere 27 = .ok (.if_icmp .eq 46, 3) := by decide +kernel
theorem dX11_wordHere_30 : decode cX11_wordHere 30 = .ok (.aload_n 0, 1) := by decide +kernel
theorem dX11_wordHere_31 : decode cX11_wordHere 31 = .ok (.getfield 403, 3) := by decide +kernel
theorem dX11_wordHere_34 : decode cX11_wordHere 34 = .ok (.iload_n 3, 1) := by decide +kernel
theorem dX11_wordHere_35 : decode cX11_wordHere 35 = .ok (.iadd, 1) := by decide +kernel
theorem dX11_wordHere_36 : decode cX11_wordHere 36 = .ok (.aload_n 0, 1) := by decide +kernel
theorem dX11_wordHere_37 : decode cX11_wordHere 37 = .ok (.getfield 400, 3) := by decide +kernel
theorem dX11_wordHere_40 : decode cX11_wordHere 40 = .ok (.if_icmp .ge 33, 3) := by decide +kernel
theorem dX11_wordHere_43 : decode cX11_wordHere 43 = .ok (.aload_n 0, 1) := by decide +kernel
theorem dX11_wordHere_44 : decode cX11_wordHere 44 = .ok (.getfield 53, 3) := by decide +kernel
theorem dX11_wordHere_47 : decode cX11_wordHere 47 = .ok (.aload_n 0, 1) := by decide +kernel
theorem dX11_wordHere_48 : decode cX11_wordHere 48 = .ok (.getfield 403, 3) := by decide +kernel
theorem dX11_wordHere_51 : decode cX11_wordHere 51 = .ok (.iload_n 3, 1) := by decide +kernel
theorem dX11_wordHere_52 : decode cX11_wordHere 52 = .ok (.iadd, 1) := by decide +kernel
theorem dX11_wordHere_53 : decode cX11_wordHere 53 = .ok (.baload, 1) := by decide +kernel
theorem dX11_wordHere_54 : decode cX11_wordHere 54 = .ok (.ldc_w 425, 3) := by decide +kernel
theorem dX11_wordHere_57 : decode cX11_wordHere 57 = .ok (.iload_n 2, 1) := by decide +kernel
theorem dX11_wordHere_58 : decode cX11_wordHere 58 = .ok (.iload_n 3, 1) := by decide +kernel
theorem dX11_wordHere_59 : decode cX11_wordHere 59 = .ok (.iadd, 1) := by decide +kernel
theorem dX11_wordHere_60 : decode cX11_wordHere 60 = .ok (.invokevirtual 431, 3) := by decide +kernel
theorem dX11_wordHere_63 : decode cX11_wordHere 63 = .ok (.if_icmp .ne 10, 3) := by decide +kernel
theorem dX11_wordHere_66 : decode cX11_wordHere 66 = .ok (.iload_n 3, 1) := by decide +kernel
theorem dX11_wordHere_67 : decode cX11_wordHere 67 = .ok (.iconst 1, 1) := by decide +kernel
theorem dX11_wordHere_68 : decode cX11_wordHere 68 = .ok (.iadd, 1) := by decide +kernel
theorem dX11_wordHere_69 : decode cX11_wordHere 69 = .ok (.istore_n 3, 1) := by decide +kernel
theorem dX11_wordHere_70 : decode cX11_wordHere 70 = .ok (.goto (-54), 3) := by decide +kernel
theorem dX11_wordHere_73 : decode cX11_wordHere 73 = .ok (.ldc_w 425, 3) := by decide +kernel
theorem dX11_wordHere_76 : decode cX11_wordHere 76 = .ok (.iload_n 2, 1) := by decide +kernel
theorem dX11_wordHere_77 : decode cX11_wordHere 77 = .ok (.iload_n 3, 1) := by decide +kernel
theorem dX11_wordHere_78 : decode cX11_wordHere 78 = .ok (.iadd, 1) := by decide +kernel
theorem dX11_wordHere_79 : decode cX11_wordHere 79 = .ok (.invokevirtual 431, 3) := by decide +kernel
theorem dX11_wordHere_82 : decode cX11_wordHere 82 = .ok (.bipush 32, 2) := by decide +kernel
theorem dX11_wordHere_84 : decode cX11_wordHere 84 = .ok (.if_icmp .ne 18, 3) := by decide +kernel
theorem dX11_wordHere_87 : decode cX11_wordHere 87 = .ok (.aload_n 0, 1) := by decide +kernel
theorem dX11_wordHere_88 : decode cX11_wordHere 88 = .ok (.getfield 403, 3) := by decide +kernel
theorem dX11_wordHere_91 : decode cX11_wordHere 91 = .ok (.iload_n 3, 1) := by decide +kernel
theorem dX11_wordHere_92 : decode cX11_wordHere 92 = .ok (.iadd, 1) := by decide +kernel
theorem dX11_wordHere_93 : decode cX11_wordHere 93 = .ok (.aload_n 0, 1) := by decide +kernel
theorem dX11_wordHere_94 : decode cX11_wordHere 94 = .ok (.getfield 400, 3) := by decide +kernel
theorem dX11_wordHere_97 : decode cX11_wordHere 97 = .ok (.if_icmp .ne 5, 3) := by decide +kernel
theorem dX11_wordHere_100 : decode cX11_wordHere 100 = .ok (.iload_n 1, 1) := by decide +kernel
theorem dX11_wordHere_101 : decode cX11_wordHere 101 = .ok (.ireturn, 1) := by decide +kernel
theorem dX11_wordHere_102 : decode cX11_wordHere 102 = .ok (.ldc_w 425, 3) := by decide +kernel
theorem dX11_wordHere_105 : decode cX11_wordHere 105 = .ok (.iload_n 2, 1) := by decide +kernel
theorem dX11_wordHere_106 : decode cX11_wordHere 106 = .ok (.invokevirtual 431, 3) := by decide +kernel
theorem dX11_wordHere_109 : decode cX11_wordHere 109 = .ok (.bipush 32, 2) := by decide +kernel
theorem dX11_wordHere_111 : decode cX11_wordHere 111 = .ok (.if_icmp .eq 10, 3) := by decide +kernel
theorem dX11_wordHere_114 : decode cX11_wordHere 114 = .ok (.iload_n 2, 1) := by decide +kernel
theorem dX11_wordHere_115 : decode cX11_wordHere 115 = .ok (.iconst 1, 1) := by decide +kernel
theorem dX11_wordHere_116 : decode cX11_wordHere 116 = .ok (.iadd, 1) := by decide +kernel
theorem dX11_wordHere_117 : decode cX11_wordHere 117 = .ok (.istore_n 2, 1) := by decide +kernel
theorem dX11_wordHere_118 : decode cX11_wordHere 118 = .ok (.goto (-16), 3) := by decide +kernel
theorem dX11_wordHere_121 : decode cX11_wordHere 121 = .ok (.iload_n 2, 1) := by decide +kernel
theorem dX11_wordHere_122 : decode cX11_wordHere 122 = .ok (.iconst 1, 1) := by decide +kernel
theorem dX11_wordHere_123 : decode cX11_wordHere 123 = .ok (.iadd, 1) := by decide +kernel
theorem dX11_wordHere_124 : decode cX11_wordHere 124 = .ok (.istore_n 2, 1) := by decide +kernel
theorem dX11_wordHere_125 : decode cX11_wordHere 125 = .ok (.iload_n 1, 1) := by decide +kernel
theorem dX11_wordHere_126 : decode cX11_wordHere 126 = .ok (.iconst 1, 1) := by decide +kernel
theorem dX11_wordHere_127 : decode cX11_wordHere 127 = .ok (.iadd, 1) := by decide +kernel
theorem dX11_wordHere_128 : decode cX11_wordHere 128 = .ok (.istore_n 1, 1) := by decide +kernel
theorem dX11_wordHere_129 : decode cX11_wordHere 129 = .ok (.goto (-125), 3) := by decide +kernel
theorem dX11_wordHere_132 : decode cX11_wordHere 132 = .ok (.iconst (-1), 1) := by decide +kernel
theorem dX11_wordHere_133 : decode cX11_wordHere 133 = .ok (.ireturn, 1) := by decide +kernel
def rmX11_wordHere : Room := rmk 21 0 0 621
theorem nX11_wordHere : nameOk yX11_wordHere 0 = true := by decide +kernel
def bX11_wordHere_0 (J : JT) : List Value → Sem
  | [.ref x0] =>
    J 1 [.ref x0, .int 0, .int 0]
  | _ => no
def bX11_wordHere_1 (J : JT) : List Value → Sem
  | [.ref x0, .int x1, .int x2] =>
    obS 2011 (cI SJ_length [.ref 2011] fun v1 =>
    br (v1 ≤ x2)
    (rI (-1))
    (J 2 [.ref x0, .int x1, .int x2, .int 0]))
  | _ => no
def bX11_wordHere_2 (J : JT) : List Value → Sem
  | [.ref x0, .int x1, .int x2, .int x3] =>
    obS 2011 (cI SJ_charAt [.ref 2011, .int (x2 + x3)] fun v1 =>
    br (v1 = (32 : Int32))
    (J 3 [.ref x0, .int x1, .int x2, .int x3])
    (gI 11 23 x0 fun v2 =>
    gI 11 22 x0 fun v3 =>
    br (v3 ≤ (v2 + x3))
    (J 3 [.ref x0, .int x1, .int x2, .int x3])
    (gR 11 19 x0 fun r4 =>
    gI 11 23 x0 fun v5 =>
    aB r4 (v5 + x3) fun v6 =>
    obS 2011 (cI SJ_charAt [.ref 2011, .int (x2 + x3)] fun v7 =>
    br (v6 = v7)
    (lI (x3 + 1) fun y3_8 =>
    J 2 [.ref x0, .int x1, .int x2, .int y3_8])
    (J 3 [.ref x0, .int x1, .int x2, .int x3])))))
  | _ => no
def bX11_wordHere_3 (J : JT) : List Value → Sem
  | [.ref x0, .int x1, .int x2, .int x3] =>
    obS 2011 (cI SJ_charAt [.ref 2011, .int (x2 + x3)] fun v1 =>
    br (v1 = (32 : Int32))
    (gI 11 23 x0 fun v2 =>
    gI 11 22 x0 fun v3 =>
    br ((v2 + x3) = v3)
    (rI x1)
    (J 4 [.ref x0, .int x1, .int x2]))
    (J 4 [.ref x0, .int x1, .int x2]))
  | _ => no
def bX11_wordHere_4 (J : JT) : List Value → Sem
  | [.ref x0, .int x1, .int x2] =>
    obS 2011 (cI SJ_charAt [.ref 2011, .int x2] fun v1 =>
    br (v1 = (32 : Int32))
    (lI (x2 + 1) fun y2_2 =>
    lI (x1 + 1) fun y1_3 =>
    J 1 [.ref x0, .int y1_3, .int y2_2])
    (lI (x2 + 1) fun y2_4 =>
    J 4 [.ref x0, .int x1, .int y2_4]))
  | _ => no
def bX11_wordHere (J : JT) : JT := fun L a => match L with
  | 0 => bX11_wordHere_0 J a
  | 1 => bX11_wordHere_1 J a
  | 2 => bX11_wordHere_2 J a
  | 3 => bX11_wordHere_3 J a
  | 4 => bX11_wordHere_4 J a
  | _ => no
def SX11_wordHere : ST := mk 4 bX11_wordHere
def lX11_wordHere (L : Nat) (a : List Value) : Nat × Nat × Nat × List (Nat × Value) × List Value := match L with
  | 0 => (0, 0, 0, lv_args 0 a, [])
  | 1 => (0, 0, 4, List.zip [0, 1, 2] a, [])
  | 2 => (0, 0, 16, List.zip [0, 1, 2, 3] a, [])
  | 3 => (0, 0, 73, List.zip [0, 1, 2, 3] a, [])
  | 4 => (0, 0, 102, List.zip [0, 1, 2] a, [])
  | _ => (0, 0, 0, [], [])
theorem pX11_wordHere_0 {Γ : CT} (hC : Ctx Γ "SpiritWallModel" cX11_wordHere 4 (some .int) rmX11_wordHere) (hnt : NT Γ) (J : JT) (hJ : ∀ L a, Cor Γ 4 (lX11_wordHere L a).1 (lX11_wordHere L a).2.1 (lX11_wordHere L a).2.2.1 (lX11_wordHere L a).2.2.2.1 (lX11_wordHere L a).2.2.2.2 (J L a)) (a : List Value) : Cor Γ 4 0 0 0 (lv_args 0 a) [] (bX11_wordHere_0 J a) := by
  unfold bX11_wordHere_0
  split
  · rename_i x0
    refine c_sub [0] rfl (loc' := [(0, .ref x0)]) ?_
    refine q_iconst hC dX11_wordHere_0 rfl ?_
    refine q_istore_nA hC (loc' := [(1, .int 0), (0, .ref x0)]) dX11_wordHere_1 rfl (Nat.le_of_ble_eq_true rfl) rfl ?_
    refine q_iconst hC dX11_wordHere_2 rfl ?_
    refine q_istore_nA hC (loc' := [(2, .int 0), (1, .int 0), (0, .ref x0)]) dX11_wordHere_3 rfl (Nat.le_of_ble_eq_true rfl) rfl ?_
    exact c_sub [2, 1, 0] rfl (hJ 1 [.ref x0, .int 0, .int 0])
  · exact c_no
theorem pX11_wordHere_1 {Γ : CT} (hC : Ctx Γ "SpiritWallModel" cX11_wordHere 4 (some .int) rmX11_wordHere) (hnt : NT Γ) (J : JT) (hJ : ∀ L a, Cor Γ 4 (lX11_wordHere L a).1 (lX11_wordHere L a).2.1 (lX11_wordHere L a).2.2.1 (lX11_wordHere L a).2.2.2.1 (lX11_wordHere L a).2.2.2.2 (J L a)) (a : List Value) : Cor Γ 4 0 0 4 (List.zip [0, 1, 2] a) [] (bX11_wordHere_1 J a) := by
  unfold bX11_wordHere_1
  split
  · rename_i x0 x1 x2
    refine c_sub [0, 1, 2] rfl (loc' := [(0, .ref x0), (1, .int x1), (2, .int x2)]) ?_
    refine q_iload_n hC 2 dX11_wordHere_4 rfl rfl ?_
    refine q_ldcSw hC (i := 11) (tx := "length bend warm limit error mark sight at fore back heat ") (by decide +kernel) dX11_wordHere_5 ?_
    refine q_cTI hC hnt (stk := [.int x2]) (as := []) sJ0_length_8abf5 rfl nJ0_length_8abf5 rfl w_1181 w_40 w_41 w_42 w_39 (Nat.le_of_ble_eq_true rfl) dX11_wordHere_8 rfl (fun v1 => ?_)
    refine q_ic_ge hC 132 dX11_wordHere_11 rfl ?_ ?_
    · refine q_iconst hC dX11_wordHere_132 rfl ?_
      exact q_iret hC dX11_wordHere_133 (Nat.le_of_ble_eq_true rfl) (Nat.le_of_ble_eq_true rfl)
    · refine q_iconst hC dX11_wordHere_14 rfl ?_
      refine q_istore_nA hC (loc' := [(3, .int 0), (0, .ref x0), (1, .int x1), (2, .int x2)]) dX11_wordHere_15 rfl (Nat.le_of_ble_eq_true rfl) rfl ?_
      exact c_sub [1, 2, 3, 0] rfl (hJ 2 [.ref x0, .int x1, .int x2, .int 0])
  · exact c_no
theorem pX11_wordHere_2 {Γ : CT} (hC : Ctx Γ "SpiritWallModel" cX11_wordHere 4 (some .int) rmX11_wordHere) (hnt : NT Γ) (J : JT) (hJ : ∀ L a, Cor Γ 4 (lX11_wordHere L a).1 (lX11_wordHere L a).2.1 (lX11_wordHere L a).2.2.1 (lX11_wordHere L a).2.2.2.1 (lX11_wordHere L a).2.2.2.2 (J L a)) (a : List Value) : Cor Γ 4 0 0 16 (List.zip [0, 1, 2, 3] a) [] (bX11_wordHere_2 J a) := by
  unfold bX11_wordHere_2
  split
  · rename_i x0 x1 x2 x3
    refine c_sub [0, 1, 2, 3] rfl (loc' := [(0, .ref x0), (1, .int x1), (2, .int x2), (3, .int x3)]) ?_
    refine q_ldcSw hC (i := 11) (tx := "length bend warm limit error mark sight at fore back heat ") (by decide +kernel) dX11_wordHere_16 ?_
    refine q_iload_n hC 2 dX11_wordHere_19 rfl rfl ?_
    refine q_iload_n hC 3 dX11_wordHere_20 rfl rfl ?_
    refine q_iadd hC dX11_wordHere_21 ?_
    refine q_cTI hC hnt (stk := []) (as := [.int (x2 + x3)]) sJ0_charAt_5068e rfl nJ0_charAt_5068e rfl w_1182 w_45 w_46 w_42 w_44 (Nat.le_of_ble_eq_true rfl) dX11_wordHere_22 rfl (fun v1 => ?_)
    refine q_bipush hC (v := 32) dX11_wordHere_25 rfl ?_
    refine q_ic_eq hC 73 dX11_wordHere_27 rfl ?_ ?_
    · exact c_sub [0, 1, 2, 3] rfl (hJ 3 [.ref x0, .int x1, .int x2, .int x3])
    · refine q_aload_n hC 0 dX11_wordHere_30 rfl rfl ?_
      refine q_getI hC (by decide) (by decide) rfl w_1183 dX11_wordHere_31 (fun v2 => ?_)
      refine q_iload_n hC 3 dX11_wordHere_34 rfl rfl ?_
      refine q_iadd hC dX11_wordHere_35 ?_
      refine q_aload_n hC 0 dX11_wordHere_36 rfl rfl ?_
      refine q_getI hC (by decide) (by decide) rfl w_1184 dX11_wordHere_37 (fun v3 => ?_)
      refine q_ic_ge hC 73 dX11_wordHere_40 rfl ?_ ?_
      · exact c_sub [0, 1, 2, 3] rfl (hJ 3 [.ref x0, .int x1, .int x2, .int x3])
      · refine q_aload_n hC 0 dX11_wordHere_43 rfl rfl ?_
        refine q_getR hC (by decide) (by decide) rfl w_823 dX11_wordHere_44 (fun r4 => ?_)
        refine q_aload_n hC 0 dX11_wordHere_47 rfl rfl ?_
        refine q_getI hC (by decide) (by decide) rfl w_1183 dX11_wordHere_48 (fun v5 => ?_)
        refine q_iload_n hC 3 dX11_wordHere_51 rfl rfl ?_
        refine q_iadd hC dX11_wordHere_52 ?_
        refine q_bald hC dX11_wordHere_53 (fun v6 => ?_)
        refine q_ldcSw hC (i := 11) (tx := "length bend warm limit error mark sight at fore back heat ") (by decide +kernel) dX11_wordHere_54 ?_
        refine q_iload_n hC 2 dX11_wordHere_57 rfl rfl ?_
        refine q_iload_n hC 3 dX11_wordHere_58 rfl rfl ?_
        refine q_iadd hC dX11_wordHere_59 ?_
        refine q_cTI hC hnt (stk := [.int v6]) (as := [.int (x2 + x3)]) sJ0_charAt_5068e rfl nJ0_charAt_5068e rfl w_1182 w_45 w_46 w_42 w_44 (Nat.le_of_ble_eq_true rfl) dX11_wordHere_60 rfl (fun v7 => ?_)
        refine q_ic_ne hC 73 dX11_wordHere_63 rfl ?_ ?_
        · exact c_sub [0, 1, 2, 3] rfl (hJ 3 [.ref x0, .int x1, .int x2, .int x3])
        · refine q_iload_n hC 3 dX11_wordHere_66 rfl rfl ?_
          refine q_iconst hC dX11_wordHere_67 rfl ?_
          refine q_iadd hC dX11_wordHere_68 ?_
          refine q_istore_n hC (fun y3_8 => [(3, .int y3_8), (0, .ref x0), (1, .int x1), (2, .int x2)]) dX11_wordHere_69 rfl (Nat.le_of_ble_eq_true rfl) (fun _ => rfl) (fun y3_8 => ?_)
          refine q_goto hC 16 dX11_wordHere_70 rfl ?_
          exact c_sub [1, 2, 3, 0] rfl (hJ 2 [.ref x0, .int x1, .int x2, .int y3_8])
  · exact c_no
theorem pX11_wordHere_3 {Γ : CT} (hC : Ctx Γ "SpiritWallModel" cX11_wordHere 4 (some .int) rmX11_wordHere) (hnt : NT Γ) (J : JT) (hJ : ∀ L a, Cor Γ 4 (lX11_wordHere L a).1 (lX11_wordHere L a).2.1 (lX11_wordHere L a).2.2.1 (lX11_wordHere L a).2.2.2.1 (lX11_wordHere L a).2.2.2.2 (J L a)) (a : List Value) : Cor Γ 4 0 0 73 (List.zip [0, 1, 2, 3] a) [] (bX11_wordHere_3 J a) := by
  unfold bX11_wordHere_3
  split
  · rename_i x0 x1 x2 x3
    refine c_sub [0, 1, 2, 3] rfl (loc' := [(0, .ref x0), (1, .int x1), (2, .int x2), (3, .int x3)]) ?_
    refine q_ldcSw hC (i := 11) (tx := "length bend warm limit error mark sight at fore back heat ") (by decide +kernel) dX11_wordHere_73 ?_
    refine q_iload_n hC 2 dX11_wordHere_76 rfl rfl ?_
    refine q_iload_n hC 3 dX11_wordHere_77 rfl rfl ?_
    refine q_iadd hC dX11_wordHere_78 ?_
    refine q_cTI hC hnt (stk := []) (as := [.int (x2 + x3)]) sJ0_charAt_5068e rfl nJ0_charAt_5068e rfl w_1182 w_45 w_46 w_42 w_44 (Nat.le_of_ble_eq_true rfl) dX11_wordHere_79 rfl (fun v1 => ?_)
    refine q_bipush hC (v := 32) dX11_wordHere_82 rfl ?_
    refine q_ic_ne hC 102 dX11_wordHere_84 rfl ?_ ?_
    · exact c_sub [0, 1, 2] rfl (hJ 4 [.ref x0, .int x1, .int x2])
    · refine q_aload_n hC 0 dX11_wordHere_87 rfl rfl ?_
      refine q_getI hC (by decide) (by decide) rfl w_1183 dX11_wordHere_88 (fun v2 => ?_)
      refine q_iload_n hC 3 dX11_wordHere_91 rfl rfl ?_
      refine q_iadd hC dX11_wordHere_92 ?_
      refine q_aload_n hC 0 dX11_wordHere_93 rfl rfl ?_
      refine q_getI hC (by decide) (by decide) rfl w_1184 dX11_wordHere_94 (fun v3 => ?_)
      refine q_ic_ne hC 102 dX11_wordHere_97 rfl ?_ ?_
      · exact c_sub [0, 1, 2] rfl (hJ 4 [.ref x0, .int x1, .int x2])
      · refine q_iload_n hC 1 dX11_wordHere_100 rfl rfl ?_
        exact q_iret hC dX11_wordHere_101 (Nat.le_of_ble_eq_true rfl) (Nat.le_of_ble_eq_true rfl)
  · exact c_no
theorem pX11_wordHere_4 {Γ : CT} (hC : Ctx Γ "SpiritWallModel" cX11_wordHere 4 (some .int) rmX11_wordHere) (hnt : NT Γ) (J : JT) (hJ : ∀ L a, Cor Γ 4 (lX11_wordHere L a).1 (lX11_wordHere L a).2.1 (lX11_wordHere L a).2.2.1 (lX11_wordHere L a).2.2.2.1 (lX11_wordHere L a).2.2.2.2 (J L a)) (a : List Value) : Cor Γ 4 0 0 102 (List.zip [0, 1, 2] a) [] (bX11_wordHere_4 J a) := by
  unfold bX11_wordHere_4
  split
  · rename_i x0 x1 x2
    refine c_sub [0, 1, 2] rfl (loc' := [(0, .ref x0), (1, .int x1), (2, .int x2)]) ?_
    refine q_ldcSw hC (i := 11) (tx := "length bend warm limit error mark sight at fore back heat ") (by decide +kernel) dX11_wordHere_102 ?_
    refine q_iload_n hC 2 dX11_wordHere_105 rfl rfl ?_
    refine q_cTI hC hnt (stk := []) (as := [.int x2]) sJ0_charAt_5068e rfl nJ0_charAt_5068e rfl w_1182 w_45 w_46 w_42 w_44 (Nat.le_of_ble_eq_true rfl) dX11_wordHere_106 rfl (fun v1 => ?_)
    refine q_bipush hC (v := 32) dX11_wordHere_109 rfl ?_
    refine q_ic_eq hC 121 dX11_wordHere_111 rfl ?_ ?_
    · refine q_iload_n hC 2 dX11_wordHere_121 rfl rfl ?_
      refine q_iconst hC dX11_wordHere_122 rfl ?_
      refine q_iadd hC dX11_wordHere_123 ?_
      refine q_istore_n hC (fun y2_2 => [(2, .int y2_2), (0, .ref x0), (1, .int x1)]) dX11_wordHere_124 rfl (Nat.le_of_ble_eq_true rfl) (fun _ => rfl) (fun y2_2 => ?_)
      refine q_iload_n hC 2 dX11_wordHere_125 rfl rfl ?_
      refine q_iconst hC dX11_wordHere_126 rfl ?_
      refine q_iadd hC dX11_wordHere_127 ?_
      refine q_istore_n hC (fun y1_3 => [(1, .int y1_3), (2, .int y2_2), (0, .ref x0)]) dX11_wordHere_128 rfl (Nat.le_of_ble_eq_true rfl) (fun _ => rfl) (fun y1_3 => ?_)
      refine q_goto hC 4 dX11_wordHere_129 rfl ?_
      exact c_sub [2, 0, 1] rfl (hJ 1 [.ref x0, .int y1_3, .int y2_2])
    · refine q_iload_n hC 2 dX11_wordHere_114 rfl rfl ?_
      refine q_iconst hC dX11_wordHere_115 rfl ?_
      refine q_iadd hC dX11_wordHere_116 ?_
      refine q_istore_n hC (fun y2_4 => [(2, .int y2_4), (0, .ref x0), (1, .int x1)]) dX11_wordHere_117 rfl (Nat.le_of_ble_eq_true rfl) (fun _ => rfl) (fun y2_4 => ?_)
      refine q_goto hC 102 dX11_wordHere_118 rfl ?_
      exact c_sub [1, 2, 0] rfl (hJ 4 [.ref x0, .int x1, .int y2_4])
  · exact c_no
theorem sX11_wordHere : Snd yX11_wordHere (.code yX11_wordHere cX11_wordHere 4 (some .int)) rmX11_wordHere SX11_wordHere := by
  refine Snd.of lX11_wordHere (by decide +kernel) (fun _ => rfl) ?_
  intro Γ hC hnt hnm J hJ L a
  match L with
  | 0 => exact pX11_wordHere_0 hC hnt J hJ a
  | 1 => exact pX11_wordHere_1 hC hnt J hJ a
  | 2 => exact pX11_wordHere_2 hC hnt J hJ a
  | 3 => exact pX11_wordHere_3 hC hnt J hJ a
  | 4 => exact pX11_wordHere_4 hC hnt J hJ a
  | L + 5 => exact c_no
/-! SpiritWallModel.next()V -/
theorem dX11_next_0 : decode cX11_next 0 = .ok (.aload_n 0, 1) := by decide +kernel
theorem dX11_next_1 : decode cX11_next 1 = .ok (.aload_n 0, 1) := by decide +kernel
theorem dX11_next_2 : decode cX11_next 2 = .ok (.getfield 400, 3) := by decide +kernel
theorem dX11_next_5 : decode cX11_next 5 = .ok (.invokevirtual 393, 3) := by decide +kernel
theorem dX11_next_8 : decode cX11_next 8 = .ok (.bipush 32, 2) := by decide +kernel
theorem dX11_next_10 : decode cX11_next 10 = .ok (.if_icmp .eq 16, 3) := by decide +kernel
theorem dX11_next_13 : decode cX11_next 13 = .ok (.aload_n 0, 1) := by decide +kernel
theorem dX11_next_14 : decode cX11_next 14 = .ok (.aload_n 0, 1) := by decide +kernel
theorem dX11_next_15 : decode cX11_next 15 = .ok (.getfield 400, 3) := by decide +kernel
theorem dX11_next_18 : decode cX11_next 18 = .ok (.invokevirtual 393, 3) := by decide +kernel
theorem dX11_next_21 : decode cX11_next 21 = .ok (.bipush 10, 2) := by decide +kernel
theorem dX11_next_23 : decode cX11_next 23 = .ok (.if_icmp .ne 16, 3) := by decide +kernel
theorem dX11_next_26 : decode cX11_next 26 = .ok (.aload_n 0, 1) := by decide +kernel
theorem dX11_next_27 : decode cX11_next 27 = .ok (.aload_n 0, 1) := by decide +kernel
theorem dX11_next_28 : decode cX11_next 28 = .ok (.getfield 400, 3) := by decide +kernel
theorem dX11_next_31 : decode cX11_next 31 = .ok (.iconst 1, 1) := by decide +kernel
theorem dX11_next_32 : decode cX11_next 32 = .ok (.iadd, 1) := by decide +kernel
theorem dX11_next_33 : decode cX11_next 33 = .ok (.putfield 400, 3) := by decide +kernel
theorem dX11_next_36 : decode cX11_next 36 = .ok (.goto (-36), 3) := by decide +kernel
theorem dX11_next_39 : decode cX11_next 39 = .ok (.aload_n 0, 1) := by decide +kernel
theorem dX11_next_40 : decode cX11_next 40 = .ok (.aload_n 0, 1) := by decide +kernel
theorem dX11_next_41 : decode cX11_next 41 = .ok (.getfield 400, 3) := by decide +kernel
theorem dX11_next_44 : decode cX11_next 44 = .ok (.putfield 403, 3) := by decide +kernel
theorem dX11_next_47 : decode cX11_next 47 = .ok (.aload_n 0, 1) := by decide +kernel
theorem dX11_next_48 : decode cX11_next 48 = .ok (.aload_n 0, 1) := by decide +kernel
theorem dX11_next_49 : decode cX11_next 49 = .ok (.getfield 400, 3) := by decide +kernel
theorem dX11_next_52 : decode cX11_next 52 = .ok (.invokevirtual 393, 3) := by decide +kernel
theorem dX11_next_55 : decode cX11_next 55 = .ok (.istore_n 1, 1) := by decide +kernel
theorem dX11_next_56 : decode cX11_next 56 = .ok (.iload_n 1, 1) := by decide +kernel
theorem dX11_next_57 : decode cX11_next 57 = .ok (.iconst (-1), 1) := by decide +kernel
theorem dX11_next_58 : decode cX11_next 58 = .ok (.if_icmp .ne 11, 3) := by decide +kernel
theorem dX11_next_61 : decode cX11_next 61 = .ok (.aload_n 0, 1) := by decide +kernel
theorem dX11_next_62 : decode cX11_next 62 = .ok (.iconst 0, 1) := by decide +kernel
theorem dX11_next_63 : decode cX11_next 63 = .ok (.putfield 406, 3) := by decide +kernel
theorem dX11_next_66 : decode cX11_next 66 = .ok (.goto 203, 3) := by decide +kernel
theorem dX11_next_69 : decode cX11_next 69 = .ok (.aload_n 0, 1) := by decide +kernel
theorem dX11_next_70 : decode cX11_next 70 = .ok (.aload_n 0, 1) := by decide +kernel
theorem dX11_next_71 : decode cX11_next 71 = .ok (.getfield 400, 3) := by decide +kernel
theorem dX11_next_74 : decode cX11_next 74 = .ok (.invokevirtual 409, 3) := by decide +kernel
theorem dX11_next_77 : decode cX11_next 77 = .ok (.ifCond .eq 43, 3) := by decide +kernel
theorem dX11_next_80 : decode cX11_next 80 = .ok (.aload_n 0, 1) := by decide +kernel
theorem dX11_next_81 : decode cX11_next 81 = .ok (.aload_n 0, 1) := by decide +kernel
theorem dX11_next_82 : decode cX11_next 82 = .ok (.getfield 400, 3) := by decide +kernel
theorem dX11_next_85 : decode cX11_next 85 = .ok (.invokevirtual 409, 3) := by decide +kernel
theorem dX11_next_88 : decode cX11_next 88 = .ok (.ifCond .eq 16, 3) := by decide +kernel
theorem dX11_next_91 : decode cX11_next 91 = .ok (.aload_n 0, 1) := by decide +kernel
theorem dX11_next_92 : decode cX11_next 92 = .ok (.aload_n 0, 1) := by decide +kernel
theorem dX11_next_93 : decode cX11_next 93 = .ok (.getfield 400, 3) := by decide +kernel
theorem dX11_next_96 : decode cX11_next 96 = .ok (.iconst 1, 1) := by decide +kernel
theorem dX11_next_97 : decode cX11_next 97 = .ok (.iadd, 1) := by decide +kernel
theorem dX11_next_98 : decode cX11_next 98 = .ok (.putfield 400, 3) := by decide +kernel
theorem dX11_next_101 : decode cX11_next 101 = .ok (.goto (-21), 3) := by decide +kernel
theorem dX11_next_104 : decode cX11_next 104 = .ok (.aload_n 0, 1) := by decide +kernel
theorem dX11_next_105 : decode cX11_next 105 = .ok (.iconst 1, 1) := by decide +kernel
theorem dX11_next_106 : decode cX11_next 106 = .ok (.putfield 406, 3) := by decide +kernel
theorem dX11_next_109 : decode cX11_next 109 = .ok (.aload_n 0, 1) := by decide +kernel
theorem dX11_next_110 : decode cX11_next 110 = .ok (.aload_n 0, 1) := by decide +kernel
theorem dX11_next_111 : decode cX11_next 111 = .ok (.invokevirtual 412, 3) := by decide +kernel
theorem dX11_next_114 : decode cX11_next 114 = .ok (.putfield 415, 3) := by decide +kernel
theorem dX11_next_117 : decode cX11_next 117 = .ok (.goto 152, 3) := by decide +kernel
theorem dX11_next_120 : decode cX11_next 120 = .ok (.iload_n 1, 1) := by decide +kernel
theorem dX11_next_121 : decode cX11_next 121 = .ok (.i2l, 1) := by decide +kernel
theorem dX11_next_122 : decode cX11_next 122 = .ok (.ldc2_w 418, 3) := by decide +kernel
theorem dX11_next_125 : decode cX11_next 125 = .ok (.ldc2_w 420, 3) := by decide +kernel
theorem dX11_next_128 : decode cX11_next 128 = .ok (.invokestatic 89, 3) := by decide +kernel
theorem dX11_next_131 : decode cX11_next 131 = .ok (.ifCond .eq 103, 3) := by decide +kernel
theorem dX11_next_134 : decode cX11_next 134 = .ok (.aload_n 0, 1) := by decide +kernel
theorem dX11_next_135 : decode cX11_next 135 = .ok (.iconst 0, 1) := by decide +kernel
theorem dX11_next_136 : decode cX11_next 136 = .ok (.putfield 422, 3) := by decide +kernel
theorem dX11_next_139 : decode cX11_next 139 = .ok (.aload_n 0, 1) := by decide +kernel
theorem dX11_next_140 : decode cX11_next 140 = .ok (.aload_n 0, 1) := by decide +kernel
theorem dX11_next_141 : decode cX11_next 141 = .ok (.getfield 400, 3) := by decide +kernel
theorem dX11_next_144 : decode cX11_next 144 = .ok (.invokevirtual 393, 3) := by decide +kernel
theorem dX11_next_147 : decode cX11_next 147 = .ok (.i2l, 1) := by decide +kernel
theorem dX11_next_148 : decode cX11_next 148 = .ok (.ldc2_w 418, 3) := by decide +kernel
theorem dX11_next_151 : decode cX11_next 151 = .ok (.ldc2_w 420, 3) := by decide +kernel
theorem dX11_next_154 : decode cX11_next 154 = .ok (.invokestatic 89, 3) := by decide +kernel
theorem dX11_next_157 : decode cX11_next 157 = .ok (.ifCond .eq 52, 3) := by decide +kernel
theorem dX11_next_160 : decode cX11_next 160 = .ok (.aload_n 0, 1) := by decide +kernel
theorem dX11_next_161 : decode cX11_next 161 = .ok (.getfield 400, 3) := by decide +kernel
theorem dX11_next_164 : decode cX11_next 164 = .ok (.aload_n 0, 1) := by decide +kernel
theorem dX11_next_165 : decode cX11_next 165 = .ok (.getfield 403, 3) := by decide +kernel
theorem dX11_next_168 : decode cX11_next 168 = .ok (.isub, 1) := by decide +kernel
theorem dX11_next_169 : decode cX11_next 169 = .ok (.iconst 5, 1) := by decide +kernel
theorem dX11_next_170 : decode cX11_next 170 = .ok (.if_icmp .ge 26, 3) := by decide +kernel
theorem dX11_next_173 : decode cX11_next 173 = .ok (.aload_n 0, 1) := by decide +kernel
theorem dX11_next_174 : decode cX11_next 174 = .ok (.bipush 10, 2) := by decide +kernel
theorem dX11_next_176 : decode cX11_next 176 = .ok (.aload_n 0, 1) := by decide +kernel
theorem dX11_next_177 : decode cX11_next 177 = .ok (.getfield 422, 3) := by decide +kernel
theorem dX11_next_180 : decode cX11_next 180 = .ok (.imul, 1) := by decide +kernel
theorem dX11_next_181 : decode cX11_next 181 = .ok (.aload_n 0, 1) := by decide +kernel
theorem dX11_next_182 : decode cX11_next 182 = .ok (.aload_n 0, 1) := by decide +kernel
theorem dX11_next_183 : decode cX11_next 183 = .ok (.getfield 400, 3) := by decide +kernel
theorem dX11_next_186 : decode cX11_next 186 = .ok (.invokevirtual 393, 3) := by decide +kernel
theorem dX11_next_189 : decode cX11_next 189 = .ok (.iadd, 1) := by decide +kernel
theorem dX11_next_190 : decode cX11_next 190 = .ok (.bipush 48, 2) := by decide +kernel
theorem dX11_next_192 : decode cX11_next 192 = .ok (.isub, 1) := by decide +kernel
theorem dX11_next_193 : decode cX11_next 193 = .ok (.putfield 422, 3) := by decide +kernel
theorem dX11_next_196 : decode cX11_next 196 = .ok (.aload_n 0, 1) := by decide +kernel
theorem dX11_next_197 : decode cX11_next 197 = .ok (.dup, 1) := by decide +kernel
theorem dX11_next_198 : decode cX11_next 198 = .ok (.getfield 400, 3) := by decide +kernel
theorem dX11_next_201 : decode cX11_next 201 = .ok (.iconst 1, 1) := by decide +kernel
theorem dX11_next_202 : decode cX11_next 202 = .ok (.iadd, 1) := by decide +kernel
theorem dX11_next_203 : decode cX11_next 203 = .ok (.putfield 400, 3) := by decide +kernel
theorem dX11_next_206 : decode cX11_next 206 = .ok (.goto (-67), 3) := by decide +kernel
theorem dX11_next_209 : decode cX11_next 209 = .ok (.aload_n 0, 1) := by decide +kernel
theorem dX11_next_210 : decode cX11_next 210 = .ok (.aload_n 0, 1) := by decide +kernel
theorem dX11_next_211 : decode cX11_next 211 = .ok (.getfield 400, 3) := by decide +kernel
theorem dX11_next_214 : decode cX11_next 214 = .ok (.aload_n 0, 1) := by decide +kernel
theorem dX11_next_215 : decode cX11_next 215 = .ok (.getfield 403, 3) := by decide +kernel
theorem dX11_next_218 : decode cX11_next 218 = .ok (.isub, 1) := by decide +kernel
theorem dX11_next_219 : decode cX11_next 219 = .ok (.iconst 5, 1) := by decide +kernel
theorem dX11_next_220 : decode cX11_next 220 = .ok (.if_icmp .le 7, 3) := by decide +kernel
theorem dX11_next_223 : decode cX11_next 223 = .ok (.iconst 5, 1) := by decide +kernel
theorem dX11_next_224 : decode cX11_next 224 = .ok (.goto 4, 3) := by decide +kernel
theorem dX11_next_227 : decode cX11_next 227 = .ok (.iconst 2, 1) := by decide +kernel
theorem dX11_next_228 : decode cX11_next 228 = .ok (.putfield 406, 3) := by decide +kernel
theorem dX11_next_231 : decode cX11_next 231 = .ok (.goto 38, 3) := by decide +kernel
theorem dX11_next_234 : decode cX11_next 234 = .ok (.aload_n 0, 1) := by decide +kernel
theorem dX11_next_235 : decode cX11_next 235 = .ok (.aload_n 0, 1) := by decide +kernel
theorem dX11_next_236 : decode cX11_next 236 = .ok (.getfield 400, 3) := by decide +kernel
theorem dX11_next_239 : decode cX11_next 239 = .ok (.iconst 1, 1) := by decide +kernel
theorem dX11_next_240 : decode cX11_next 240 = .ok (.iadd, 1) := by decide +kernel
theorem dX11_next_241 : decode cX11_next 241 = .ok (.putfield 400, 3) := by decide +kernel
theorem dX11_next_244 : decode cX11_next 244 = .ok (.aload_n 0, 1) := by decide +kernel
theorem dX11_next_245 : decode cX11_next 245 = .ok (.iload_n 1, 1) := by decide +kernel
theorem dX11_next_246 : decode cX11_next 246 = .ok (.bipush 59, 2) := by decide +kernel
theorem dX11_next_248 : decode cX11_next 248 = .ok (.if_icmp .ne 7, 3) := by decide +kernel
theorem dX11_next_251 : decode cX11_next 251 = .ok (.iconst 3, 1) := by decide +kernel
theorem dX11_next_252 : decode cX11_next 252 = .ok (.goto 14, 3) := by decide +kernel
theorem dX11_next_255 : decode cX11_next 255 = .ok (.iload_n 1, 1) := by decide +kernel
theorem dX11_next_256 : decode cX11_next 256 = .ok (.bipush 45, 2) := by decide +kernel
theorem dX11_next_258 : decode cX11_next 258 = .ok (.if_icmp .ne 7, 3) := by decide +kernel
theorem dX11_next_261 : decode cX11_next 261 = .ok (.iconst 4, 1) := by decide +kernel
theorem dX11_next_262 : decode cX11_next 262 = .ok (.goto 4, 3) := by decide +kernel
theorem dX11_next_265 : decode cX11_next 265 = .ok (.iconst 5, 1) := by decide +kernel
theorem dX11_next_266 : decode cX11_next 266 = .ok (.putfield 406, 3) := by decide +kernel
theorem dX11_next_269 : decode cX11_next 269 = .ok (.return_, 1) := by decide +kernel
def rmX11_next : Room := rmk 22 0 0 644
theorem nX11_next : nameOk yX11_next 0 = true := by decide +kernel
def bX11_next_0 (J : JT) : List Value → Sem
  | [.ref x0] =>
    gI 11 22 x0 fun v1 =>
    ob 11 x0 (cI SX11_here [.ref x0, .int v1] fun v2 =>
    br (v2 = (32 : Int32))
    (gI 11 22 x0 fun v3 =>
    pI 11 22 x0 (v3 + 1) <|
    J 0 [.ref x0])
    (gI 11 22 x0 fun v4 =>
    ob 11 x0 (cI SX11_here [.ref x0, .int v4] fun v5 =>
    br (v5 = (10 : Int32))
    (gI 11 22 x0 fun v13 =>
    pI 11 22 x0 (v13 + 1) <|
    J 0 [.ref x0])
    (gI 11 22 x0 fun v6 =>
    pI 11 23 x0 v6 <|
    gI 11 22 x0 fun v7 =>
    ob 11 x0 (cI SX11_here [.ref x0, .int v7] fun v8 =>
    br (v8 = ((-1) : Int32))
    (pI 11 24 x0 0 <|
    rV)
    (gI 11 22 x0 fun v9 =>
    ob 11 x0 (cI SX11_isLetter [.ref x0, .int v9] fun v10 =>
    br (v10 = 0)
    (cI SX11_isIn [.long (v8.toInt64), .long 48, .long 57] fun v11 =>
    br (v11 = 0)
    (gI 11 22 x0 fun v12 =>
    pI 11 22 x0 (v12 + 1) <|
    br (v8 = (59 : Int32))
    (pI 11 24 x0 3 <|
    rV)
    (br (v8 = (45 : Int32))
    (pI 11 24 x0 4 <|
    rV)
    (pI 11 24 x0 5 <|
    rV)))
    (pI 11 26 x0 0 <|
    J 2 [.ref x0]))
    (J 1 [.ref x0]))))))))
  | _ => no
def bX11_next_1 (J : JT) : List Value → Sem
  | [.ref x0] =>
    gI 11 22 x0 fun v1 =>
    ob 11 x0 (cI SX11_isLetter [.ref x0, .int v1] fun v2 =>
    br (v2 = 0)
    (pI 11 24 x0 1 <|
    ob 11 x0 (cI SX11_wordHere [.ref x0] fun v3 =>
    pI 11 25 x0 v3 <|
    rV))
    (gI 11 22 x0 fun v4 =>
    pI 11 22 x0 (v4 + 1) <|
    J 1 [.ref x0]))
  | _ => no
def bX11_next_2 (J : JT) : List Value → Sem
  | [.ref x0] =>
    gI 11 22 x0 fun v1 =>
    ob 11 x0 (cI SX11_here [.ref x0, .int v1] fun v2 =>
    cI SX11_isIn [.long (v2.toInt64), .long 48, .long 57] fun v3 =>
    br (v3 = 0)
    (gI 11 22 x0 fun v4 =>
    gI 11 23 x0 fun v5 =>
    br ((v4 - v5) ≤ (5 : Int32))
    (pI 11 24 x0 2 <|
    rV)
    (pI 11 24 x0 5 <|
    rV))
    (gI 11 22 x0 fun v6 =>
    gI 11 23 x0 fun v7 =>
    br ((5 : Int32) ≤ (v6 - v7))
    (gI 11 22 x0 fun v8 =>
    pI 11 22 x0 (v8 + 1) <|
    J 2 [.ref x0])
    (gI 11 26 x0 fun v9 =>
    gI 11 22 x0 fun v10 =>
    ob 11 x0 (cI SX11_here [.ref x0, .int v10] fun v11 =>
    pI 11 26 x0 (((10 * v9) + v11) - 48) <|
    gI 11 22 x0 fun v12 =>
    pI 11 22 x0 (v12 + 1) <|
    J 2 [.ref x0]))))
  | _ => no
def bX11_next (J : JT) : JT := fun L a => match L with
  | 0 => bX11_next_0 J a
  | 1 => bX11_next_1 J a
  | 2 => bX11_next_2 J a
  | _ => no
def SX11_next : ST := mk 2 bX11_next
def lX11_next (L : Nat) (a : List Value) : Nat × Nat × Nat × List (Nat × Value) × List Value := match L with
  | 0 => (0, 0, 0, lv_args 0 a, [])
  | 1 => (0, 0, 80, List.zip [0] a, [])
  | 2 => (0, 0, 139, List.zip [0] a, [])
  | _ => (0, 0, 0, [], [])
theorem pX11_next_0 {Γ : CT} (hC : Ctx Γ "SpiritWallModel" cX11_next 2 none rmX11_next) (hnt : NT Γ) (J : JT) (hJ : ∀ L a, Cor Γ 2 (lX11_next L a).1 (lX11_next L a).2.1 (lX11_next L a).2.2.1 (lX11_next L a).2.2.2.1 (lX11_next L a).2.2.2.2 (J L a)) (a : List Value) : Cor Γ 2 0 0 0 (lv_args 0 a) [] (bX11_next_0 J a) := by
  unfold bX11_next_0
  split
  · rename_i x0
    refine c_sub [0] rfl (loc' := [(0, .ref x0)]) ?_
    refine q_aload_n hC 0 dX11_next_0 rfl rfl ?_
    refine q_aload_n hC 0 dX11_next_1 rfl rfl ?_
    refine q_getI hC (by decide) (by decide) rfl w_1184 dX11_next_2 (fun v1 => ?_)
    refine q_cVI hC hnt (stk := []) (as := [.int v1]) sX11_here (ci := 11) (by decide) rfl nX11_here rfl w_1175 w_1177 w_1178 w_830 w_1176 (Nat.le_of_ble_eq_true rfl) dX11_next_5 rfl (fun v2 => ?_)
    refine q_bipush hC (v := 32) dX11_next_8 rfl ?_
    refine q_ic_eq hC 26 dX11_next_10 rfl ?_ ?_
    · refine q_aload_n hC 0 dX11_next_26 rfl rfl ?_
      refine q_aload_n hC 0 dX11_next_27 rfl rfl ?_
      refine q_getI hC (by decide) (by decide) rfl w_1184 dX11_next_28 (fun v3 => ?_)
      refine q_iconst hC dX11_next_31 rfl ?_
      refine q_iadd hC dX11_next_32 ?_
      refine q_putI hC (by decide) (by decide) rfl rfl w_1184 dX11_next_33 ?_
      refine q_goto hC 0 dX11_next_36 rfl ?_
      exact c_sub [0] rfl (hJ 0 [.ref x0])
    · refine q_aload_n hC 0 dX11_next_13 rfl rfl ?_
      refine q_aload_n hC 0 dX11_next_14 rfl rfl ?_
      refine q_getI hC (by decide) (by decide) rfl w_1184 dX11_next_15 (fun v4 => ?_)
      refine q_cVI hC hnt (stk := []) (as := [.int v4]) sX11_here (ci := 11) (by decide) rfl nX11_here rfl w_1175 w_1177 w_1178 w_830 w_1176 (Nat.le_of_ble_eq_true rfl) dX11_next_18 rfl (fun v5 => ?_)
      refine q_bipush hC (v := 10) dX11_next_21 rfl ?_
      refine q_ic_ne hC 39 dX11_next_23 rfl ?_ ?_
      · refine q_aload_n hC 0 dX11_next_39 rfl rfl ?_
        refine q_aload_n hC 0 dX11_next_40 rfl rfl ?_
        refine q_getI hC (by decide) (by decide) rfl w_1184 dX11_next_41 (fun v6 => ?_)
        refine q_putI hC (by decide) (by decide) rfl rfl w_1183 dX11_next_44 ?_
        refine q_aload_n hC 0 dX11_next_47 rfl rfl ?_
        refine q_aload_n hC 0 dX11_next_48 rfl rfl ?_
        refine q_getI hC (by decide) (by decide) rfl w_1184 dX11_next_49 (fun v7 => ?_)
        refine q_cVI hC hnt (stk := []) (as := [.int v7]) sX11_here (ci := 11) (by decide) rfl nX11_here rfl w_1175 w_1177 w_1178 w_830 w_1176 (Nat.le_of_ble_eq_true rfl) dX11_next_52 rfl (fun v8 => ?_)
        refine q_istore_nA hC (loc' := [(1, .int v8), (0, .ref x0)]) dX11_next_55 rfl (Nat.le_of_ble_eq_true rfl) rfl ?_
        refine q_iload_n hC 0 dX11_next_56 rfl rfl ?_
        refine q_iconst hC dX11_next_57 rfl ?_
        refine q_ic_ne hC 69 dX11_next_58 rfl ?_ ?_
        · refine q_aload_n hC 1 dX11_next_69 rfl rfl ?_
          refine q_aload_n hC 1 dX11_next_70 rfl rfl ?_
          refine q_getI hC (by decide) (by decide) rfl w_1184 dX11_next_71 (fun v9 => ?_)
          refine q_cVI hC hnt (stk := []) (as := [.int v9]) sX11_isLetter (ci := 11) (by decide) rfl nX11_isLetter rfl w_1185 w_1187 w_1188 w_830 w_1186 (Nat.le_of_ble_eq_true rfl) dX11_next_74 rfl (fun v10 => ?_)
          refine q_if_eq hC 120 dX11_next_77 rfl ?_ ?_
          · refine q_iload_n hC 0 dX11_next_120 rfl rfl ?_
            refine q_i2l hC dX11_next_121 ?_
            refine q_ldc2 hC w_1189 dX11_next_122 ?_
            refine q_ldc2 hC w_1190 dX11_next_125 ?_
            refine q_cSI hC hnt (stk := []) (as := [.long (v8.toInt64), .long 48, .long 57]) sX11_isIn nX11_isIn rfl w_847 w_849 w_830 w_848 (Nat.le_of_ble_eq_true rfl) dX11_next_128 rfl (fun v11 => ?_)
            refine q_if_eq hC 234 dX11_next_131 rfl ?_ ?_
            · refine q_aload_n hC 1 dX11_next_234 rfl rfl ?_
              refine q_aload_n hC 1 dX11_next_235 rfl rfl ?_
              refine q_getI hC (by decide) (by decide) rfl w_1184 dX11_next_236 (fun v12 => ?_)
              refine q_iconst hC dX11_next_239 rfl ?_
              refine q_iadd hC dX11_next_240 ?_
              refine q_putI hC (by decide) (by decide) rfl rfl w_1184 dX11_next_241 ?_
              refine q_aload_n hC 1 dX11_next_244 rfl rfl ?_
              refine q_iload_n hC 0 dX11_next_245 rfl rfl ?_
              refine q_bipush hC (v := 59) dX11_next_246 rfl ?_
              refine q_ic_ne hC 255 dX11_next_248 rfl ?_ ?_
              · refine q_iload_n hC 0 dX11_next_255 rfl rfl ?_
                refine q_bipush hC (v := 45) dX11_next_256 rfl ?_
                refine q_ic_ne hC 265 dX11_next_258 rfl ?_ ?_
                · refine q_iconst hC dX11_next_265 rfl ?_
                  refine q_putI hC (by decide) (by decide) rfl rfl w_1191 dX11_next_266 ?_
                  exact q_vret hC dX11_next_269 (Nat.le_of_ble_eq_true rfl) (Nat.le_of_ble_eq_true rfl)
                · refine q_iconst hC dX11_next_261 rfl ?_
                  refine q_goto hC 266 dX11_next_262 rfl ?_
                  refine q_putI hC (by decide) (by decide) rfl rfl w_1191 dX11_next_266 ?_
                  exact q_vret hC dX11_next_269 (Nat.le_of_ble_eq_true rfl) (Nat.le_of_ble_eq_true rfl)
              · refine q_iconst hC dX11_next_251 rfl ?_
                refine q_goto hC 266 dX11_next_252 rfl ?_
                refine q_putI hC (by decide) (by decide) rfl rfl w_1191 dX11_next_266 ?_
                exact q_vret hC dX11_next_269 (Nat.le_of_ble_eq_true rfl) (Nat.le_of_ble_eq_true rfl)
            · refine q_aload_n hC 1 dX11_next_134 rfl rfl ?_
              refine q_iconst hC dX11_next_135 rfl ?_
              refine q_putI hC (by decide) (by decide) rfl rfl w_1192 dX11_next_136 ?_
              exact c_sub [1] rfl (hJ 2 [.ref x0])
          · exact c_sub [1] rfl (hJ 1 [.ref x0])
        · refine q_aload_n hC 1 dX11_next_61 rfl rfl ?_
          refine q_iconst hC dX11_next_62 rfl ?_
          refine q_putI hC (by decide) (by decide) rfl rfl w_1191 dX11_next_63 ?_
          refine q_goto hC 269 dX11_next_66 rfl ?_
          exact q_vret hC dX11_next_269 (Nat.le_of_ble_eq_true rfl) (Nat.le_of_ble_eq_true rfl)
      · refine q_aload_n hC 0 dX11_next_26 rfl rfl ?_
        refine q_aload_n hC 0 dX11_next_27 rfl rfl ?_
        refine q_getI hC (by decide) (by decide) rfl w_1184 dX11_next_28 (fun v13 => ?_)
        refine q_iconst hC dX11_next_31 rfl ?_
        refine q_iadd hC dX11_next_32 ?_
        refine q_putI hC (by decide) (by decide) rfl rfl w_1184 dX11_next_33 ?_
        refine q_goto hC 0 dX11_next_36 rfl ?_
        exact c_sub [0] rfl (hJ 0 [.ref x0])
  · exact c_no
theorem pX11_next_1 {Γ : CT} (hC : Ctx Γ "SpiritWallModel" cX11_next 2 none rmX11_next) (hnt : NT Γ) (J : JT) (hJ : ∀ L a, Cor Γ 2 (lX11_next L a).1 (lX11_next L a).2.1 (lX11_next L a).2.2.1 (lX11_next L a).2.2.2.1 (lX11_next L a).2.2.2.2 (J L a)) (a : List Value) : Cor Γ 2 0 0 80 (List.zip [0] a) [] (bX11_next_1 J a) := by
  unfold bX11_next_1
  split
  · rename_i x0
    refine c_sub [0] rfl (loc' := [(0, .ref x0)]) ?_
    refine q_aload_n hC 0 dX11_next_80 rfl rfl ?_
    refine q_aload_n hC 0 dX11_next_81 rfl rfl ?_
    refine q_getI hC (by decide) (by decide) rfl w_1184 dX11_next_82 (fun v1 => ?_)
    refine q_cVI hC hnt (stk := []) (as := [.int v1]) sX11_isLetter (ci := 11) (by decide) rfl nX11_isLetter rfl w_1185 w_1187 w_1188 w_830 w_1186 (Nat.le_of_ble_eq_true rfl) dX11_next_85 rfl (fun v2 => ?_)
    refine q_if_eq hC 104 dX11_next_88 rfl ?_ ?_
    · refine q_aload_n hC 0 dX11_next_104 rfl rfl ?_
      refine q_iconst hC dX11_next_105 rfl ?_
      refine q_putI hC (by decide) (by decide) rfl rfl w_1191 dX11_next_106 ?_
      refine q_aload_n hC 0 dX11_next_109 rfl rfl ?_
      refine q_aload_n hC 0 dX11_next_110 rfl rfl ?_
      refine q_cVI hC hnt (stk := [.ref x0]) (as := []) sX11_wordHere (ci := 11) (by decide) rfl nX11_wordHere rfl w_1193 w_1195 w_1196 w_830 w_1194 (Nat.le_of_ble_eq_true rfl) dX11_next_111 rfl (fun v3 => ?_)
      refine q_putI hC (by decide) (by decide) rfl rfl w_1197 dX11_next_114 ?_
      refine q_goto hC 269 dX11_next_117 rfl ?_
      exact q_vret hC dX11_next_269 (Nat.le_of_ble_eq_true rfl) (Nat.le_of_ble_eq_true rfl)
    · refine q_aload_n hC 0 dX11_next_91 rfl rfl ?_
      refine q_aload_n hC 0 dX11_next_92 rfl rfl ?_
      refine q_getI hC (by decide) (by decide) rfl w_1184 dX11_next_93 (fun v4 => ?_)
      refine q_iconst hC dX11_next_96 rfl ?_
      refine q_iadd hC dX11_next_97 ?_
      refine q_putI hC (by decide) (by decide) rfl rfl w_1184 dX11_next_98 ?_
      refine q_goto hC 80 dX11_next_101 rfl ?_
      exact c_sub [0] rfl (hJ 1 [.ref x0])
  · exact c_no
theorem pX11_next_2 {Γ : CT} (hC : Ctx Γ "SpiritWallModel" cX11_next 2 none rmX11_next) (hnt : NT Γ) (J : JT) (hJ : ∀ L a, Cor Γ 2 (lX11_next L a).1 (lX11_next L a).2.1 (lX11_next L a).2.2.1 (lX11_next L a).2.2.2.1 (lX11_next L a).2.2.2.2 (J L a)) (a : List Value) : Cor Γ 2 0 0 139 (List.zip [0] a) [] (bX11_next_2 J a) := by
  unfold bX11_next_2
  split
  · rename_i x0
    refine c_sub [0] rfl (loc' := [(0, .ref x0)]) ?_
    refine q_aload_n hC 0 dX11_next_139 rfl rfl ?_
    refine q_aload_n hC 0 dX11_next_140 rfl rfl ?_
    refine q_getI hC (by decide) (by decide) rfl w_1184 dX11_next_141 (fun v1 => ?_)
    refine q_cVI hC hnt (stk := []) (as := [.int v1]) sX11_here (ci := 11) (by decide) rfl nX11_here rfl w_1175 w_1177 w_1178 w_830 w_1176 (Nat.le_of_ble_eq_true rfl) dX11_next_144 rfl (fun v2 => ?_)
    refine q_i2l hC dX11_next_147 ?_
    refine q_ldc2 hC w_1189 dX11_next_148 ?_
    refine q_ldc2 hC w_1190 dX11_next_151 ?_
    refine q_cSI hC hnt (stk := []) (as := [.long (v2.toInt64), .long 48, .long 57]) sX11_isIn nX11_isIn rfl w_847 w_849 w_830 w_848 (Nat.le_of_ble_eq_true rfl) dX11_next_154 rfl (fun v3 => ?_)
    refine q_if_eq hC 209 dX11_next_157 rfl ?_ ?_
    · refine q_aload_n hC 0 dX11_next_209 rfl rfl ?_
      refine q_aload_n hC 0 dX11_next_210 rfl rfl ?_
      refine q_getI hC (by decide) (by decide) rfl w_1184 dX11_next_211 (fun v4 => ?_)
      refine q_aload_n hC 0 dX11_next_214 rfl rfl ?_
      refine q_getI hC (by decide) (by decide) rfl w_1183 dX11_next_215 (fun v5 => ?_)
      refine q_isub hC dX11_next_218 ?_
      refine q_iconst hC dX11_next_219 rfl ?_
      refine q_ic_le hC 227 dX11_next_220 rfl ?_ ?_
      · refine q_iconst hC dX11_next_227 rfl ?_
        refine q_putI hC (by decide) (by decide) rfl rfl w_1191 dX11_next_228 ?_
        refine q_goto hC 269 dX11_next_231 rfl ?_
        exact q_vret hC dX11_next_269 (Nat.le_of_ble_eq_true rfl) (Nat.le_of_ble_eq_true rfl)
      · refine q_iconst hC dX11_next_223 rfl ?_
        refine q_goto hC 228 dX11_next_224 rfl ?_
        refine q_putI hC (by decide) (by decide) rfl rfl w_1191 dX11_next_228 ?_
        refine q_goto hC 269 dX11_next_231 rfl ?_
        exact q_vret hC dX11_next_269 (Nat.le_of_ble_eq_true rfl) (Nat.le_of_ble_eq_true rfl)
    · refine q_aload_n hC 0 dX11_next_160 rfl rfl ?_
      refine q_getI hC (by decide) (by decide) rfl w_1184 dX11_next_161 (fun v6 => ?_)
      refine q_aload_n hC 0 dX11_next_164 rfl rfl ?_
      refine q_getI hC (by decide) (by decide) rfl w_1183 dX11_next_165 (fun v7 => ?_)
      refine q_isub hC dX11_next_168 ?_
      refine q_iconst hC dX11_next_169 rfl ?_
      refine q_ic_ge hC 196 dX11_next_170 rfl ?_ ?_
      · refine q_aload_n hC 0 dX11_next_196 rfl rfl ?_
        refine q_dup hC dX11_next_197 ?_
        refine q_getI hC (by decide) (by decide) rfl w_1184 dX11_next_198 (fun v8 => ?_)
        refine q_iconst hC dX11_next_201 rfl ?_
        refine q_iadd hC dX11_next_202 ?_
        refine q_putI hC (by decide) (by decide) rfl rfl w_1184 dX11_next_203 ?_
        refine q_goto hC 139 dX11_next_206 rfl ?_
        exact c_sub [0] rfl (hJ 2 [.ref x0])
      · refine q_aload_n hC 0 dX11_next_173 rfl rfl ?_
        refine q_bipush hC (v := 10) dX11_next_174 rfl ?_
        refine q_aload_n hC 0 dX11_next_176 rfl rfl ?_
        refine q_getI hC (by decide) (by decide) rfl w_1192 dX11_next_177 (fun v9 => ?_)
        refine q_imul hC dX11_next_180 ?_
        refine q_aload_n hC 0 dX11_next_181 rfl rfl ?_
        refine q_aload_n hC 0 dX11_next_182 rfl rfl ?_
        refine q_getI hC (by decide) (by decide) rfl w_1184 dX11_next_183 (fun v10 => ?_)
        refine q_cVI hC hnt (stk := [.int (10 * v9), .ref x0]) (as := [.int v10]) sX11_here (ci := 11) (by decide) rfl nX11_here rfl w_1175 w_1177 w_1178 w_830 w_1176 (Nat.le_of_ble_eq_true rfl) dX11_next_186 rfl (fun v11 => ?_)
        refine q_iadd hC dX11_next_189 ?_
        refine q_bipush hC (v := 48) dX11_next_190 rfl ?_
        refine q_isub hC dX11_next_192 ?_
        refine q_putI hC (by decide) (by decide) rfl rfl w_1192 dX11_next_193 ?_
        refine q_aload_n hC 0 dX11_next_196 rfl rfl ?_
        refine q_dup hC dX11_next_197 ?_
        refine q_getI hC (by decide) (by decide) rfl w_1184 dX11_next_198 (fun v12 => ?_)
        refine q_iconst hC dX11_next_201 rfl ?_
        refine q_iadd hC dX11_next_202 ?_
        refine q_putI hC (by decide) (by decide) rfl rfl w_1184 dX11_next_203 ?_
        refine q_goto hC 139 dX11_next_206 rfl ?_
        exact c_sub [0] rfl (hJ 2 [.ref x0])
  · exact c_no
theorem sX11_next : Snd yX11_next (.code yX11_next cX11_next 2 none) rmX11_next SX11_next := by
  refine Snd.of lX11_next (by decide +kernel) (fun _ => rfl) ?_
  intro Γ hC hnt hnm J hJ L a
  match L with
  | 0 => exact pX11_next_0 hC hnt J hJ a
  | 1 => exact pX11_next_1 hC hnt J hJ a
  | 2 => exact pX11_next_2 hC hnt J hJ a
  | L + 3 => exact c_no
/-! SpiritWallModel.nameAt(II)I -/
theorem dX11_nameAt_0 : decode cX11_nameAt 0 = .ok (.iload_n 2, 1) := by decide +kernel
theorem dX11_nameAt_1 : decode cX11_nameAt 1 = .ok (.i2l, 1) := by decide +kernel
theorem dX11_nameAt_2 : decode cX11_nameAt 2 = .ok (.lconst 1, 1) := by decide +kernel
theorem dX11_nameAt_3 : decode cX11_nameAt 3 = .ok (.ldc2_w 304, 3) := by decide +kernel
theorem dX11_nameAt_6 : decode cX11_nameAt 6 = .ok (.invokestatic 89, 3) := by decide +kernel
theorem dX11_nameAt_9 : decode cX11_nameAt 9 = .ok (.ifCond .ne 5, 3) := by decide +kernel
theorem dX11_nameAt_12 : decode cX11_nameAt 12 = .ok (.iconst (-1), 1) := by decide +kernel
theorem dX11_nameAt_13 : decode cX11_nameAt 13 = .ok (.ireturn, 1) := by decide +kernel
theorem dX11_nameAt_14 : decode cX11_nameAt 14 = .ok (.iconst 0, 1) := by decide +kernel
theorem dX11_nameAt_15 : decode cX11_nameAt 15 = .ok (.istore_n 3, 1) := by decide +kernel
theorem dX11_nameAt_16 : decode cX11_nameAt 16 = .ok (.iconst 0, 1) := by decide +kernel
theorem dX11_nameAt_17 : decode cX11_nameAt 17 = .ok (.istore 4, 2) := by decide +kernel
theorem dX11_nameAt_19 : decode cX11_nameAt 19 = .ok (.iload 4, 2) := by decide +kernel
theorem dX11_nameAt_21 : decode cX11_nameAt 21 = .ok (.iload_n 2, 1) := by decide +kernel
theorem dX11_nameAt_22 : decode cX11_nameAt 22 = .ok (.if_icmp .ge 50, 3) := by decide +kernel
theorem dX11_nameAt_25 : decode cX11_nameAt 25 = .ok (.aload_n 0, 1) := by decide +kernel
theorem dX11_nameAt_26 : decode cX11_nameAt 26 = .ok (.getfield 53, 3) := by decide +kernel
theorem dX11_nameAt_29 : decode cX11_nameAt 29 = .ok (.iload_n 1, 1) := by decide +kernel
theorem dX11_nameAt_30 : decode cX11_nameAt 30 = .ok (.iload 4, 2) := by decide +kernel
theorem dX11_nameAt_32 : decode cX11_nameAt 32 = .ok (.iadd, 1) := by decide +kernel
theorem dX11_nameAt_33 : decode cX11_nameAt 33 = .ok (.baload, 1) := by decide +kernel
theorem dX11_nameAt_34 : decode cX11_nameAt 34 = .ok (.istore 5, 2) := by decide +kernel
theorem dX11_nameAt_36 : decode cX11_nameAt 36 = .ok (.iload 5, 2) := by decide +kernel
theorem dX11_nameAt_38 : decode cX11_nameAt 38 = .ok (.i2l, 1) := by decide +kernel
theorem dX11_nameAt_39 : decode cX11_nameAt 39 = .ok (.ldc2_w 396, 3) := by decide +kernel
theorem dX11_nameAt_42 : decode cX11_nameAt 42 = .ok (.ldc2_w 398, 3) := by decide +kernel
theorem dX11_nameAt_45 : decode cX11_nameAt 45 = .ok (.invokestatic 89, 3) := by decide +kernel
theorem dX11_nameAt_48 : decode cX11_nameAt 48 = .ok (.ifCond .ne 5, 3) := by decide +kernel
theorem dX11_nameAt_51 : decode cX11_nameAt 51 = .ok (.iconst (-1), 1) := by decide +kernel
theorem dX11_nameAt_52 : decode cX11_nameAt 52 = .ok (.ireturn, 1) := by decide +kernel
theorem dX11_nameAt_53 : decode cX11_nameAt 53 = .ok (.bipush 27, 2) := by decide +kernel
theorem dX11_nameAt_55 : decode cX11_nameAt 55 = .ok (.iload_n 3, 1) := by decide +kernel
theorem dX11_nameAt_56 : decode cX11_nameAt 56 = .ok (.imul, 1) := by decide +kernel
theorem dX11_nameAt_57 : decode cX11_nameAt 57 = .ok (.iload 5, 2) := by decide +kernel
theorem dX11_nameAt_59 : decode cX11_nameAt 59 = .ok (.iadd, 1) := by decide +kernel
theorem dX11_nameAt_60 : decode cX11_nameAt 60 = .ok (.bipush 97, 2) := by decide +kernel
theorem dX11_nameAt_62 : decode cX11_nameAt 62 = .ok (.isub, 1) := by decide +kernel
theorem dX11_nameAt_63 : decode cX11_nameAt 63 = .ok (.iconst 1, 1) := by decide +kernel
theorem dX11_nameAt_64 : decode cX11_nameAt 64 = .ok (.iadd, 1) := by decide +kernel
theorem dX11_nameAt_65 : decode cX11_nameAt 65 = .ok (.istore_n 3, 1) := by decide +kernel
theorem dX11_nameAt_66 : decode cX11_nameAt 66 = .ok (.iinc 4 1, 3) := by decide +kernel
theorem dX11_nameAt_69 : decode cX11_nameAt 69 = .ok (.goto (-50), 3) := by decide +kernel
theorem dX11_nameAt_72 : decode cX11_nameAt 72 = .ok (.iload_n 3, 1) := by decide +kernel
theorem dX11_nameAt_73 : decode cX11_nameAt 73 = .ok (.ireturn, 1) := by decide +kernel
def rmX11_nameAt : Room := rmk 7 0 0 175
theorem nX11_nameAt : nameOk yX11_nameAt 2 = true := by decide +kernel
def bX11_nameAt_0 (J : JT) : List Value → Sem
  | [.ref x0, .int x1, .int x2] =>
    cI SX11_isIn [.long (x2.toInt64), .long 1, .long 6] fun v1 =>
    br (v1 = 0)
    (rI (-1))
    (J 1 [.ref x0, .int x1, .int x2, .int 0, .int 0])
  | _ => no
def bX11_nameAt_1 (J : JT) : List Value → Sem
  | [.ref x0, .int x1, .int x2, .int x3, .int x4] =>
    br (x2 ≤ x4)
    (rI x3)
    (gR 11 19 x0 fun r1 =>
    aB r1 (x1 + x4) fun v2 =>
    cI SX11_isIn [.long (v2.toInt64), .long 97, .long 122] fun v3 =>
    br (v3 = 0)
    (rI (-1))
    (lI ((((27 * x3) + v2) - 97) + 1) fun y3_4 =>
    J 1 [.ref x0, .int x1, .int x2, .int y3_4, .int (x4 + 1)]))
  | _ => no
def bX11_nameAt (J : JT) : JT := fun L a => match L with
  | 0 => bX11_nameAt_0 J a
  | 1 => bX11_nameAt_1 J a
  | _ => no
def SX11_nameAt : ST := mk 6 bX11_nameAt
def lX11_nameAt (L : Nat) (a : List Value) : Nat × Nat × Nat × List (Nat × Value) × List Value := match L with
  | 0 => (0, 0, 0, lv_args 0 a, [])
  | 1 => (0, 0, 19, List.zip [0, 1, 2, 3, 4] a, [])
  | _ => (0, 0, 0, [], [])
theorem pX11_nameAt_0 {Γ : CT} (hC : Ctx Γ "SpiritWallModel" cX11_nameAt 6 (some .int) rmX11_nameAt) (hnt : NT Γ) (J : JT) (hJ : ∀ L a, Cor Γ 6 (lX11_nameAt L a).1 (lX11_nameAt L a).2.1 (lX11_nameAt L a).2.2.1 (lX11_nameAt L a).2.2.2.1 (lX11_nameAt L a).2.2.2.2 (J L a)) (a : List Value) : Cor Γ 6 0 0 0 (lv_args 0 a) [] (bX11_nameAt_0 J a) := by
  unfold bX11_nameAt_0
  split
  · rename_i x0 x1 x2
    refine c_sub [0, 1, 2] rfl (loc' := [(0, .ref x0), (1, .int x1), (2, .int x2)]) ?_
    refine q_iload_n hC 2 dX11_nameAt_0 rfl rfl ?_
    refine q_i2l hC dX11_nameAt_1 ?_
    refine q_lconst hC (v := 1) dX11_nameAt_2 rfl ?_
    refine q_ldc2 hC w_1090 dX11_nameAt_3 ?_
    refine q_cSI hC hnt (stk := []) (as := [.long (x2.toInt64), .long 1, .long 6]) sX11_isIn nX11_isIn rfl w_847 w_849 w_830 w_848 (Nat.le_of_ble_eq_true rfl) dX11_nameAt_6 rfl (fun v1 => ?_)
    refine q_if_ne hC 14 dX11_nameAt_9 rfl ?_ ?_
    · refine q_iconst hC dX11_nameAt_14 rfl ?_
      refine q_istore_nA hC (loc' := [(3, .int 0), (0, .ref x0), (1, .int x1), (2, .int x2)]) dX11_nameAt_15 rfl (Nat.le_of_ble_eq_true rfl) rfl ?_
      refine q_iconst hC dX11_nameAt_16 rfl ?_
      refine q_istoreA hC (loc' := [(4, .int 0), (3, .int 0), (0, .ref x0), (1, .int x1), (2, .int x2)]) dX11_nameAt_17 (Nat.le_of_ble_eq_true rfl) rfl ?_
      exact c_sub [2, 3, 4, 1, 0] rfl (hJ 1 [.ref x0, .int x1, .int x2, .int 0, .int 0])
    · refine q_iconst hC dX11_nameAt_12 rfl ?_
      exact q_iret hC dX11_nameAt_13 (Nat.le_of_ble_eq_true rfl) (Nat.le_of_ble_eq_true rfl)
  · exact c_no
theorem pX11_nameAt_1 {Γ : CT} (hC : Ctx Γ "SpiritWallModel" cX11_nameAt 6 (some .int) rmX11_nameAt) (hnt : NT Γ) (J : JT) (hJ : ∀ L a, Cor Γ 6 (lX11_nameAt L a).1 (lX11_nameAt L a).2.1 (lX11_nameAt L a).2.2.1 (lX11_nameAt L a).2.2.2.1 (lX11_nameAt L a).2.2.2.2 (J L a)) (a : List Value) : Cor Γ 6 0 0 19 (List.zip [0, 1, 2, 3, 4] a) [] (bX11_nameAt_1 J a) := by
  unfold bX11_nameAt_1
  split
  · rename_i x0 x1 x2 x3 x4
    refine c_sub [0, 1, 2, 3, 4] rfl (loc' := [(0, .ref x0), (1, .int x1), (2, .int x2), (3, .int x3), (4, .int x4)]) ?_
    refine q_iload hC 4 dX11_nameAt_19 rfl ?_
    refine q_iload_n hC 2 dX11_nameAt_21 rfl rfl ?_
    refine q_ic_ge hC 72 dX11_nameAt_22 rfl ?_ ?_
    · refine q_iload_n hC 3 dX11_nameAt_72 rfl rfl ?_
      exact q_iret hC dX11_nameAt_73 (Nat.le_of_ble_eq_true rfl) (Nat.le_of_ble_eq_true rfl)
    · refine q_aload_n hC 0 dX11_nameAt_25 rfl rfl ?_
      refine q_getR hC (by decide) (by decide) rfl w_823 dX11_nameAt_26 (fun r1 => ?_)
      refine q_iload_n hC 1 dX11_nameAt_29 rfl rfl ?_
      refine q_iload hC 4 dX11_nameAt_30 rfl ?_
      refine q_iadd hC dX11_nameAt_32 ?_
      refine q_bald hC dX11_nameAt_33 (fun v2 => ?_)
      refine q_istoreA hC (loc' := [(5, .int v2), (0, .ref x0), (1, .int x1), (2, .int x2), (3, .int x3), (4, .int x4)]) dX11_nameAt_34 (Nat.le_of_ble_eq_true rfl) rfl ?_
      refine q_iload hC 0 dX11_nameAt_36 rfl ?_
      refine q_i2l hC dX11_nameAt_38 ?_
      refine q_ldc2 hC w_1179 dX11_nameAt_39 ?_
      refine q_ldc2 hC w_1180 dX11_nameAt_42 ?_
      refine q_cSI hC hnt (stk := []) (as := [.long (v2.toInt64), .long 97, .long 122]) sX11_isIn nX11_isIn rfl w_847 w_849 w_830 w_848 (Nat.le_of_ble_eq_true rfl) dX11_nameAt_45 rfl (fun v3 => ?_)
      refine q_if_ne hC 53 dX11_nameAt_48 rfl ?_ ?_
      · refine q_bipush hC (v := 27) dX11_nameAt_53 rfl ?_
        refine q_iload_n hC 4 dX11_nameAt_55 rfl rfl ?_
        refine q_imul hC dX11_nameAt_56 ?_
        refine q_iload hC 0 dX11_nameAt_57 rfl ?_
        refine q_iadd hC dX11_nameAt_59 ?_
        refine q_bipush hC (v := 97) dX11_nameAt_60 rfl ?_
        refine q_isub hC dX11_nameAt_62 ?_
        refine q_iconst hC dX11_nameAt_63 rfl ?_
        refine q_iadd hC dX11_nameAt_64 ?_
        refine q_istore_n hC (fun y3_4 => [(3, .int y3_4), (5, .int v2), (0, .ref x0), (1, .int x1), (2, .int x2), (4, .int x4)]) dX11_nameAt_65 rfl (Nat.le_of_ble_eq_true rfl) (fun _ => rfl) (fun y3_4 => ?_)
        refine q_iincA hC (loc' := [(4, .int (x4 + 1)), (3, .int y3_4), (5, .int v2), (0, .ref x0), (1, .int x1), (2, .int x2)]) 5 1 dX11_nameAt_66 rfl rfl (Nat.le_of_ble_eq_true rfl) rfl ?_
        refine q_goto hC 19 dX11_nameAt_69 rfl ?_
        exact c_sub [3, 4, 5, 1, 0] rfl (hJ 1 [.ref x0, .int x1, .int x2, .int y3_4, .int (x4 + 1)])
      · refine q_iconst hC dX11_nameAt_51 rfl ?_
        exact q_iret hC dX11_nameAt_52 (Nat.le_of_ble_eq_true rfl) (Nat.le_of_ble_eq_true rfl)
  · exact c_no
theorem sX11_nameAt : Snd yX11_nameAt (.code yX11_nameAt cX11_nameAt 6 (some .int)) rmX11_nameAt SX11_nameAt := by
  refine Snd.of lX11_nameAt (by decide +kernel) (fun _ => rfl) ?_
  intro Γ hC hnt hnm J hJ L a
  match L with
  | 0 => exact pX11_nameAt_0 hC hnt J hJ a
  | 1 => exact pX11_nameAt_1 hC hnt J hJ a
  | L + 2 => exact c_no
/-! SpiritWallModel.named(I)I -/
theorem dX11_named_0 : decode cX11_named 0 = .ok (.iconst 0, 1) := by decide +kernel
theorem dX11_named_1 : decode cX11_named 1 = .ok (.istore_n 2, 1) := by decide +kernel
theorem dX11_named_2 : decode cX11_named 2 = .ok (.iload_n 2, 1) := by decide +kernel
theorem dX11_named_3 : decode cX11_named 3 = .ok (.aload_n 0, 1) := by decide +kernel
theorem dX11_named_4 : decode cX11_named 4 = .ok (.invokevirtual 85, 3) := by decide +kernel
theorem dX11_named_7 : decode cX11_named 7 = .ok (.if_icmp .ge 21, 3) := by decide +kernel
theorem dX11_named_10 : decode cX11_named 10 = .ok (.aload_n 0, 1) := by decide +kernel
theorem dX11_named_11 : decode cX11_named 11 = .ok (.iload_n 2, 1) := by decide +kernel
theorem dX11_named_12 : decode cX11_named 12 = .ok (.iconst 0, 1) := by decide +kernel
theorem dX11_named_13 : decode cX11_named 13 = .ok (.invokevirtual 104, 3) := by decide +kernel
theorem dX11_named_16 : decode cX11_named 16 = .ok (.iload_n 1, 1) := by decide +kernel
theorem dX11_named_17 : decode cX11_named 17 = .ok (.if_icmp .ne 5, 3) := by decide +kernel
theorem dX11_named_20 : decode cX11_named 20 = .ok (.iload_n 2, 1) := by decide +kernel
theorem dX11_named_21 : decode cX11_named 21 = .ok (.ireturn, 1) := by decide +kernel
theorem dX11_named_22 : decode cX11_named 22 = .ok (.iinc 2 1, 3) := by decide +kernel
theorem dX11_named_25 : decode cX11_named 25 = .ok (.goto (-23), 3) := by decide +kernel
theorem dX11_named_28 : decode cX11_named 28 = .ok (.iconst (-1), 1) := by decide +kernel
theorem dX11_named_29 : decode cX11_named 29 = .ok (.ireturn, 1) := by decide +kernel
def rmX11_named : Room := rmk 7 0 0 172
theorem nX11_named : nameOk yX11_named 1 = true := by decide +kernel
def bX11_named_0 (J : JT) : List Value → Sem
  | [.ref x0, .int x1] =>
    J 1 [.ref x0, .int x1, .int 0]
  | _ => no
def bX11_named_1 (J : JT) : List Value → Sem
  | [.ref x0, .int x1, .int x2] =>
    ob 11 x0 (cI SX11_marks [.ref x0] fun v1 =>
    br (v1 ≤ x2)
    (rI (-1))
    (ob 11 x0 (cI SX11_of [.ref x0, .int x2, .int 0] fun v2 =>
    br (v2 = x1)
    (rI x2)
    (J 1 [.ref x0, .int x1, .int (x2 + 1)]))))
  | _ => no
def bX11_named (J : JT) : JT := fun L a => match L with
  | 0 => bX11_named_0 J a
  | 1 => bX11_named_1 J a
  | _ => no
def SX11_named : ST := mk 3 bX11_named
def lX11_named (L : Nat) (a : List Value) : Nat × Nat × Nat × List (Nat × Value) × List Value := match L with
  | 0 => (0, 0, 0, lv_args 0 a, [])
  | 1 => (0, 0, 2, List.zip [0, 1, 2] a, [])
  | _ => (0, 0, 0, [], [])
theorem pX11_named_0 {Γ : CT} (hC : Ctx Γ "SpiritWallModel" cX11_named 3 (some .int) rmX11_named) (hnt : NT Γ) (J : JT) (hJ : ∀ L a, Cor Γ 3 (lX11_named L a).1 (lX11_named L a).2.1 (lX11_named L a).2.2.1 (lX11_named L a).2.2.2.1 (lX11_named L a).2.2.2.2 (J L a)) (a : List Value) : Cor Γ 3 0 0 0 (lv_args 0 a) [] (bX11_named_0 J a) := by
  unfold bX11_named_0
  split
  · rename_i x0 x1
    refine c_sub [0, 1] rfl (loc' := [(0, .ref x0), (1, .int x1)]) ?_
    refine q_iconst hC dX11_named_0 rfl ?_
    refine q_istore_nA hC (loc' := [(2, .int 0), (0, .ref x0), (1, .int x1)]) dX11_named_1 rfl (Nat.le_of_ble_eq_true rfl) rfl ?_
    exact c_sub [1, 2, 0] rfl (hJ 1 [.ref x0, .int x1, .int 0])
  · exact c_no
theorem pX11_named_1 {Γ : CT} (hC : Ctx Γ "SpiritWallModel" cX11_named 3 (some .int) rmX11_named) (hnt : NT Γ) (J : JT) (hJ : ∀ L a, Cor Γ 3 (lX11_named L a).1 (lX11_named L a).2.1 (lX11_named L a).2.2.1 (lX11_named L a).2.2.2.1 (lX11_named L a).2.2.2.2 (J L a)) (a : List Value) : Cor Γ 3 0 0 2 (List.zip [0, 1, 2] a) [] (bX11_named_1 J a) := by
  unfold bX11_named_1
  split
  · rename_i x0 x1 x2
    refine c_sub [0, 1, 2] rfl (loc' := [(0, .ref x0), (1, .int x1), (2, .int x2)]) ?_
    refine q_iload_n hC 2 dX11_named_2 rfl rfl ?_
    refine q_aload_n hC 0 dX11_named_3 rfl rfl ?_
    refine q_cVI hC hnt (stk := [.int x2]) (as := []) sX11_marks (ci := 11) (by decide) rfl nX11_marks rfl w_843 w_845 w_846 w_830 w_844 (Nat.le_of_ble_eq_true rfl) dX11_named_4 rfl (fun v1 => ?_)
    refine q_ic_ge hC 28 dX11_named_7 rfl ?_ ?_
    · refine q_iconst hC dX11_named_28 rfl ?_
      exact q_iret hC dX11_named_29 (Nat.le_of_ble_eq_true rfl) (Nat.le_of_ble_eq_true rfl)
    · refine q_aload_n hC 0 dX11_named_10 rfl rfl ?_
      refine q_iload_n hC 2 dX11_named_11 rfl rfl ?_
      refine q_iconst hC dX11_named_12 rfl ?_
      refine q_cVI hC hnt (stk := []) (as := [.int x2, .int 0]) sX11_of (ci := 11) (by decide) rfl nX11_of rfl w_862 w_864 w_865 w_830 w_863 (Nat.le_of_ble_eq_true rfl) dX11_named_13 rfl (fun v2 => ?_)
      refine q_iload_n hC 1 dX11_named_16 rfl rfl ?_
      refine q_ic_ne hC 22 dX11_named_17 rfl ?_ ?_
      · refine q_iincA hC (loc' := [(2, .int (x2 + 1)), (0, .ref x0), (1, .int x1)]) 2 1 dX11_named_22 rfl rfl (Nat.le_of_ble_eq_true rfl) rfl ?_
        refine q_goto hC 2 dX11_named_25 rfl ?_
        exact c_sub [1, 2, 0] rfl (hJ 1 [.ref x0, .int x1, .int (x2 + 1)])
      · refine q_iload_n hC 2 dX11_named_20 rfl rfl ?_
        exact q_iret hC dX11_named_21 (Nat.le_of_ble_eq_true rfl) (Nat.le_of_ble_eq_true rfl)
  · exact c_no
theorem sX11_named : Snd yX11_named (.code yX11_named cX11_named 3 (some .int)) rmX11_named SX11_named := by
  refine Snd.of lX11_named (by decide +kernel) (fun _ => rfl) ?_
  intro Γ hC hnt hnm J hJ L a
  match L with
  | 0 => exact pX11_named_0 hC hnt J hJ a
  | 1 => exact pX11_named_1 hC hnt J hJ a
  | L + 2 => exact c_no
/-! SpiritWallModel.find()I -/
theorem dX11_find_0 : decode cX11_find 0 = .ok (.aload_n 0, 1) := by decide +kernel
theorem dX11_find_1 : decode cX11_find 1 = .ok (.iconst 0, 1) := by decide +kernel
theorem dX11_find_2 : decode cX11_find 2 = .ok (.putfield 67, 3) := by decide +kernel
theorem dX11_find_5 : decode cX11_find 5 = .ok (.aload_n 0, 1) := by decide +kernel
theorem dX11_find_6 : decode cX11_find 6 = .ok (.iconst 0, 1) := by decide +kernel
theorem dX11_find_7 : decode cX11_find 7 = .ok (.aload_n 0, 1) := by decide +kernel
theorem dX11_find_8 : decode cX11_find 8 = .ok (.getfield 387, 3) := by decide +kernel
theorem dX11_find_11 : decode cX11_find 11 = .ok (.invokevirtual 435, 3) := by decide +kernel
theorem dX11_find_14 : decode cX11_find 14 = .ok (.istore_n 1, 1) := by decide +kernel
theorem dX11_find_15 : decode cX11_find 15 = .ok (.aload_n 0, 1) := by decide +kernel
theorem dX11_find_16 : decode cX11_find 16 = .ok (.iconst 0, 1) := by decide +kernel
theorem dX11_find_17 : decode cX11_find 17 = .ok (.putfield 387, 3) := by decide +kernel
theorem dX11_find_20 : decode cX11_find 20 = .ok (.iload_n 1, 1) := by decide +kernel
theorem dX11_find_21 : decode cX11_find 21 = .ok (.iconst (-1), 1) := by decide +kernel
theorem dX11_find_22 : decode cX11_find 22 = .ok (.if_icmp .ne 7, 3) := by decide +kernel
theorem dX11_find_25 : decode cX11_find 25 = .ok (.iconst (-1), 1) := by decide +kernel
theorem dX11_find_26 : decode cX11_find 26 = .ok (.goto 8, 3) := by decide +kernel
theorem dX11_find_29 : decode cX11_find 29 = .ok (.aload_n 0, 1) := by decide +kernel
theorem dX11_find_30 : decode cX11_find 30 = .ok (.iload_n 1, 1) := by decide +kernel
theorem dX11_find_31 : decode cX11_find 31 = .ok (.invokevirtual 438, 3) := by decide +kernel
theorem dX11_find_34 : decode cX11_find 34 = .ok (.ireturn, 1) := by decide +kernel
def rmX11_find : Room := rmk 8 0 0 200
theorem nX11_find : nameOk yX11_find 0 = true := by decide +kernel
def bX11_find_0 (J : JT) : List Value → Sem
  | [.ref x0] =>
    pI 11 0 x0 0 <|
    gI 11 20 x0 fun v1 =>
    ob 11 x0 (cI SX11_nameAt [.ref x0, .int 0, .int v1] fun v2 =>
    pI 11 20 x0 0 <|
    br (v2 = ((-1) : Int32))
    (rI (-1))
    (ob 11 x0 (cI SX11_named [.ref x0, .int v2] fun v3 =>
    rI v3)))
  | _ => no
def bX11_find (J : JT) : JT := fun L a => match L with
  | 0 => bX11_find_0 J a
  | _ => no
def SX11_find : ST := mk 2 bX11_find
def lX11_find (L : Nat) (a : List Value) : Nat × Nat × Nat × List (Nat × Value) × List Value := match L with
  | 0 => (0, 0, 0, lv_args 0 a, [])
  | _ => (0, 0, 0, [], [])
theorem pX11_find_0 {Γ : CT} (hC : Ctx Γ "SpiritWallModel" cX11_find 2 (some .int) rmX11_find) (hnt : NT Γ) (J : JT) (hJ : ∀ L a, Cor Γ 2 (lX11_find L a).1 (lX11_find L a).2.1 (lX11_find L a).2.2.1 (lX11_find L a).2.2.2.1 (lX11_find L a).2.2.2.2 (J L a)) (a : List Value) : Cor Γ 2 0 0 0 (lv_args 0 a) [] (bX11_find_0 J a) := by
  unfold bX11_find_0
  split
  · rename_i x0
    refine c_sub [0] rfl (loc' := [(0, .ref x0)]) ?_
    refine q_aload_n hC 0 dX11_find_0 rfl rfl ?_
    refine q_iconst hC dX11_find_1 rfl ?_
    refine q_putI hC (by decide) (by decide) rfl rfl w_833 dX11_find_2 ?_
    refine q_aload_n hC 0 dX11_find_5 rfl rfl ?_
    refine q_iconst hC dX11_find_6 rfl ?_
    refine q_aload_n hC 0 dX11_find_7 rfl rfl ?_
    refine q_getI hC (by decide) (by decide) rfl w_1173 dX11_find_8 (fun v1 => ?_)
    refine q_cVI hC hnt (stk := []) (as := [.int 0, .int v1]) sX11_nameAt (ci := 11) (by decide) rfl nX11_nameAt rfl w_1198 w_1200 w_1201 w_830 w_1199 (Nat.le_of_ble_eq_true rfl) dX11_find_11 rfl (fun v2 => ?_)
    refine q_istore_nA hC (loc' := [(1, .int v2), (0, .ref x0)]) dX11_find_14 rfl (Nat.le_of_ble_eq_true rfl) rfl ?_
    refine q_aload_n hC 1 dX11_find_15 rfl rfl ?_
    refine q_iconst hC dX11_find_16 rfl ?_
    refine q_putI hC (by decide) (by decide) rfl rfl w_1173 dX11_find_17 ?_
    refine q_iload_n hC 0 dX11_find_20 rfl rfl ?_
    refine q_iconst hC dX11_find_21 rfl ?_
    refine q_ic_ne hC 29 dX11_find_22 rfl ?_ ?_
    · refine q_aload_n hC 1 dX11_find_29 rfl rfl ?_
      refine q_iload_n hC 0 dX11_find_30 rfl rfl ?_
      refine q_cVI hC hnt (stk := []) (as := [.int v2]) sX11_named (ci := 11) (by decide) rfl nX11_named rfl w_1202 w_1204 w_1205 w_830 w_1203 (Nat.le_of_ble_eq_true rfl) dX11_find_31 rfl (fun v3 => ?_)
      exact q_iret hC dX11_find_34 (Nat.le_of_ble_eq_true rfl) (Nat.le_of_ble_eq_true rfl)
    · refine q_iconst hC dX11_find_25 rfl ?_
      refine q_goto hC 34 dX11_find_26 rfl ?_
      exact q_iret hC dX11_find_34 (Nat.le_of_ble_eq_true rfl) (Nat.le_of_ble_eq_true rfl)
  · exact c_no
theorem sX11_find : Snd yX11_find (.code yX11_find cX11_find 2 (some .int)) rmX11_find SX11_find := by
  refine Snd.of lX11_find (by decide +kernel) (fun _ => rfl) ?_
  intro Γ hC hnt hnm J hJ L a
  match L with
  | 0 => exact pX11_find_0 hC hnt J hJ a
  | L + 1 => exact c_no
/-! SpiritWallModel.fine()Z -/
theorem dX11_fine_0 : decode cX11_fine 0 = .ok (.aload_n 0, 1) := by decide +kernel
theorem dX11_fine_1 : decode cX11_fine 1 = .ok (.getfield 441, 3) := by decide +kernel
theorem dX11_fine_4 : decode cX11_fine 4 = .ok (.ifCond .ne 7, 3) := by decide +kernel
theorem dX11_fine_7 : decode cX11_fine 7 = .ok (.iconst 1, 1) := by decide +kernel
theorem dX11_fine_8 : decode cX11_fine 8 = .ok (.goto 4, 3) := by decide +kernel
theorem dX11_fine_11 : decode cX11_fine 11 = .ok (.iconst 0, 1) := by decide +kernel
theorem dX11_fine_12 : decode cX11_fine 12 = .ok (.ireturn, 1) := by decide +kernel
def rmX11_fine : Room := rmk 6 0 0 150
theorem nX11_fine : nameOk yX11_fine 0 = true := by decide +kernel
def bX11_fine_0 (J : JT) : List Value → Sem
  | [.ref x0] =>
    gI 11 27 x0 fun v1 =>
    br (v1 = 0)
    (rZ 1)
    (rZ 0)
  | _ => no
def bX11_fine (J : JT) : JT := fun L a => match L with
  | 0 => bX11_fine_0 J a
  | _ => no
def SX11_fine : ST := mk 1 bX11_fine
def lX11_fine (L : Nat) (a : List Value) : Nat × Nat × Nat × List (Nat × Value) × List Value := match L with
  | 0 => (0, 0, 0, lv_args 0 a, [])
  | _ => (0, 0, 0, [], [])
theorem pX11_fine_0 {Γ : CT} (hC : Ctx Γ "SpiritWallModel" cX11_fine 1 (some .boolean) rmX11_fine) (hnt : NT Γ) (J : JT) (hJ : ∀ L a, Cor Γ 1 (lX11_fine L a).1 (lX11_fine L a).2.1 (lX11_fine L a).2.2.1 (lX11_fine L a).2.2.2.1 (lX11_fine L a).2.2.2.2 (J L a)) (a : List Value) : Cor Γ 1 0 0 0 (lv_args 0 a) [] (bX11_fine_0 J a) := by
  unfold bX11_fine_0
  split
  · rename_i x0
    refine c_sub [0] rfl (loc' := [(0, .ref x0)]) ?_
    refine q_aload_n hC 0 dX11_fine_0 rfl rfl ?_
    refine q_getI hC (by decide) (by decide) rfl w_1206 dX11_fine_1 (fun v1 => ?_)
    refine q_if_ne hC 11 dX11_fine_4 rfl ?_ ?_
    · refine q_iconst hC dX11_fine_11 rfl ?_
      exact q_zret hC dX11_fine_12 (Nat.le_of_ble_eq_true rfl) (Nat.le_of_ble_eq_true rfl)
    · refine q_iconst hC dX11_fine_7 rfl ?_
      refine q_goto hC 12 dX11_fine_8 rfl ?_
      exact q_zret hC dX11_fine_12 (Nat.le_of_ble_eq_true rfl) (Nat.le_of_ble_eq_true rfl)
  · exact c_no
theorem sX11_fine : Snd yX11_fine (.code yX11_fine cX11_fine 1 (some .boolean)) rmX11_fine SX11_fine := by
  refine Snd.of lX11_fine (by decide +kernel) (fun _ => rfl) ?_
  intro Γ hC hnt hnm J hJ L a
  match L with
  | 0 => exact pX11_fine_0 hC hnt J hJ a
  | L + 1 => exact c_no
/-! SpiritWallModel.needs(ZI)V -/
theorem dX11_needs_0 : decode cX11_needs 0 = .ok (.aload_n 0, 1) := by decide +kernel
theorem dX11_needs_1 : decode cX11_needs 1 = .ok (.getfield 441, 3) := by decide +kernel
theorem dX11_needs_4 : decode cX11_needs 4 = .ok (.ifCond .ne 7, 3) := by decide +kernel
theorem dX11_needs_7 : decode cX11_needs 7 = .ok (.iload_n 1, 1) := by decide +kernel
theorem dX11_needs_8 : decode cX11_needs 8 = .ok (.ifCond .eq 4, 3) := by decide +kernel
theorem dX11_needs_11 : decode cX11_needs 11 = .ok (.return_, 1) := by decide +kernel
theorem dX11_needs_12 : decode cX11_needs 12 = .ok (.aload_n 0, 1) := by decide +kernel
theorem dX11_needs_13 : decode cX11_needs 13 = .ok (.iload_n 2, 1) := by decide +kernel
theorem dX11_needs_14 : decode cX11_needs 14 = .ok (.putfield 441, 3) := by decide +kernel
theorem dX11_needs_17 : decode cX11_needs 17 = .ok (.aload_n 0, 1) := by decide +kernel
theorem dX11_needs_18 : decode cX11_needs 18 = .ok (.aload_n 0, 1) := by decide +kernel
theorem dX11_needs_19 : decode cX11_needs 19 = .ok (.getfield 403, 3) := by decide +kernel
theorem dX11_needs_22 : decode cX11_needs 22 = .ok (.putfield 57, 3) := by decide +kernel
theorem dX11_needs_25 : decode cX11_needs 25 = .ok (.return_, 1) := by decide +kernel
def rmX11_needs : Room := rmk 6 0 0 150
theorem nX11_needs : nameOk yX11_needs 2 = true := by decide +kernel
def bX11_needs_0 (J : JT) : List Value → Sem
  | [.ref x0, .int x1, .int x2] =>
    gI 11 27 x0 fun v1 =>
    br (v1 = 0)
    (br (x1 = 0)
    (pI 11 27 x0 x2 <|
    gI 11 23 x0 fun v2 =>
    pI 11 28 x0 v2 <|
    rV)
    (rV))
    (rV)
  | _ => no
def bX11_needs (J : JT) : JT := fun L a => match L with
  | 0 => bX11_needs_0 J a
  | _ => no
def SX11_needs : ST := mk 3 bX11_needs
def lX11_needs (L : Nat) (a : List Value) : Nat × Nat × Nat × List (Nat × Value) × List Value := match L with
  | 0 => (0, 0, 0, lv_args 0 a, [])
  | _ => (0, 0, 0, [], [])
theorem pX11_needs_0 {Γ : CT} (hC : Ctx Γ "SpiritWallModel" cX11_needs 3 none rmX11_needs) (hnt : NT Γ) (J : JT) (hJ : ∀ L a, Cor Γ 3 (lX11_needs L a).1 (lX11_needs L a).2.1 (lX11_needs L a).2.2.1 (lX11_needs L a).2.2.2.1 (lX11_needs L a).2.2.2.2 (J L a)) (a : List Value) : Cor Γ 3 0 0 0 (lv_args 0 a) [] (bX11_needs_0 J a) := by
  unfold bX11_needs_0
  split
  · rename_i x0 x1 x2
    refine c_sub [0, 1, 2] rfl (loc' := [(0, .ref x0), (1, .int x1), (2, .int x2)]) ?_
    refine q_aload_n hC 0 dX11_needs_0 rfl rfl ?_
    refine q_getI hC (by decide) (by decide) rfl w_1206 dX11_needs_1 (fun v1 => ?_)
    refine q_if_ne hC 11 dX11_needs_4 rfl ?_ ?_
    · exact q_vret hC dX11_needs_11 (Nat.le_of_ble_eq_true rfl) (Nat.le_of_ble_eq_true rfl)
    · refine q_iload_n hC 1 dX11_needs_7 rfl rfl ?_
      refine q_if_eq hC 12 dX11_needs_8 rfl ?_ ?_
      · refine q_aload_n hC 0 dX11_needs_12 rfl rfl ?_
        refine q_iload_n hC 2 dX11_needs_13 rfl rfl ?_
        refine q_putI hC (by decide) (by decide) rfl rfl w_1206 dX11_needs_14 ?_
        refine q_aload_n hC 0 dX11_needs_17 rfl rfl ?_
        refine q_aload_n hC 0 dX11_needs_18 rfl rfl ?_
        refine q_getI hC (by decide) (by decide) rfl w_1183 dX11_needs_19 (fun v2 => ?_)
        refine q_putI hC (by decide) (by decide) rfl rfl w_824 dX11_needs_22 ?_
        exact q_vret hC dX11_needs_25 (Nat.le_of_ble_eq_true rfl) (Nat.le_of_ble_eq_true rfl)
      · exact q_vret hC dX11_needs_11 (Nat.le_of_ble_eq_true rfl) (Nat.le_of_ble_eq_true rfl)
  · exact c_no
theorem sX11_needs : Snd yX11_needs (.code yX11_needs cX11_needs 3 none) rmX11_needs SX11_needs := by
  refine Snd.of lX11_needs (by decide +kernel) (fun _ => rfl) ?_
  intro Γ hC hnt hnm J hJ L a
  match L with
  | 0 => exact pX11_needs_0 hC hnt J hJ a
  | L + 1 => exact c_no
/-! SpiritWallModel.goOn()V -/
theorem dX11_goOn_0 : decode cX11_goOn 0 = .ok (.aload_n 0, 1) := by decide +kernel
theorem dX11_goOn_1 : decode cX11_goOn 1 = .ok (.invokevirtual 444, 3) := by decide +kernel
theorem dX11_goOn_4 : decode cX11_goOn 4 = .ok (.ifCond .eq 7, 3) := by decide +kernel
theorem dX11_goOn_7 : decode cX11_goOn 7 = .ok (.aload_n 0, 1) := by decide +kernel
theorem dX11_goOn_8 : decode cX11_goOn 8 = .ok (.invokevirtual 448, 3) := by decide +kernel
theorem dX11_goOn_11 : decode cX11_goOn 11 = .ok (.return_, 1) := by decide +kernel
def rmX11_goOn : Room := rmk 23 0 0 665
theorem nX11_goOn : nameOk yX11_goOn 0 = true := by decide +kernel
def bX11_goOn_0 (J : JT) : List Value → Sem
  | [.ref x0] =>
    ob 11 x0 (cI SX11_fine [.ref x0] fun v1 =>
    br (v1 = 0)
    (rV)
    (ob 11 x0 (cV SX11_next [.ref x0] <|
    rV)))
  | _ => no
def bX11_goOn (J : JT) : JT := fun L a => match L with
  | 0 => bX11_goOn_0 J a
  | _ => no
def SX11_goOn : ST := mk 1 bX11_goOn
def lX11_goOn (L : Nat) (a : List Value) : Nat × Nat × Nat × List (Nat × Value) × List Value := match L with
  | 0 => (0, 0, 0, lv_args 0 a, [])
  | _ => (0, 0, 0, [], [])
theorem pX11_goOn_0 {Γ : CT} (hC : Ctx Γ "SpiritWallModel" cX11_goOn 1 none rmX11_goOn) (hnt : NT Γ) (J : JT) (hJ : ∀ L a, Cor Γ 1 (lX11_goOn L a).1 (lX11_goOn L a).2.1 (lX11_goOn L a).2.2.1 (lX11_goOn L a).2.2.2.1 (lX11_goOn L a).2.2.2.2 (J L a)) (a : List Value) : Cor Γ 1 0 0 0 (lv_args 0 a) [] (bX11_goOn_0 J a) := by
  unfold bX11_goOn_0
  split
  · rename_i x0
    refine c_sub [0] rfl (loc' := [(0, .ref x0)]) ?_
    refine q_aload_n hC 0 dX11_goOn_0 rfl rfl ?_
    refine q_cVI hC hnt (stk := []) (as := []) sX11_fine (ci := 11) (by decide) rfl nX11_fine rfl w_1207 w_1209 w_1210 w_830 w_1208 (Nat.le_of_ble_eq_true rfl) dX11_goOn_1 rfl (fun v1 => ?_)
    refine q_if_eq hC 11 dX11_goOn_4 rfl ?_ ?_
    · exact q_vret hC dX11_goOn_11 (Nat.le_of_ble_eq_true rfl) (Nat.le_of_ble_eq_true rfl)
    · refine q_aload_n hC 0 dX11_goOn_7 rfl rfl ?_
      refine q_cVV hC hnt (stk := []) (as := []) sX11_next (ci := 11) (by decide) rfl nX11_next rfl w_1211 w_1213 w_1214 w_830 w_1212 (Nat.le_of_ble_eq_true rfl) dX11_goOn_8 rfl ?_
      exact q_vret hC dX11_goOn_11 (Nat.le_of_ble_eq_true rfl) (Nat.le_of_ble_eq_true rfl)
  · exact c_no
theorem sX11_goOn : Snd yX11_goOn (.code yX11_goOn cX11_goOn 1 none) rmX11_goOn SX11_goOn := by
  refine Snd.of lX11_goOn (by decide +kernel) (fun _ => rfl) ?_
  intro Γ hC hnt hnm J hJ L a
  match L with
  | 0 => exact pX11_goOn_0 hC hnt J hJ a
  | L + 1 => exact c_no
/-! SpiritWallModel.isWord(I)Z -/
theorem dX11_isWord_0 : decode cX11_isWord 0 = .ok (.aload_n 0, 1) := by decide +kernel
theorem dX11_isWord_1 : decode cX11_isWord 1 = .ok (.invokevirtual 444, 3) := by decide +kernel
theorem dX11_isWord_4 : decode cX11_isWord 4 = .ok (.ifCond .eq 23, 3) := by decide +kernel
theorem dX11_isWord_7 : decode cX11_isWord 7 = .ok (.aload_n 0, 1) := by decide +kernel
theorem dX11_isWord_8 : decode cX11_isWord 8 = .ok (.getfield 406, 3) := by decide +kernel
theorem dX11_isWord_11 : decode cX11_isWord 11 = .ok (.iconst 1, 1) := by decide +kernel
theorem dX11_isWord_12 : decode cX11_isWord 12 = .ok (.if_icmp .ne 15, 3) := by decide +kernel
theorem dX11_isWord_15 : decode cX11_isWord 15 = .ok (.aload_n 0, 1) := by decide +kernel
theorem dX11_isWord_16 : decode cX11_isWord 16 = .ok (.getfield 415, 3) := by decide +kernel
theorem dX11_isWord_19 : decode cX11_isWord 19 = .ok (.iload_n 1, 1) := by decide +kernel
theorem dX11_isWord_20 : decode cX11_isWord 20 = .ok (.if_icmp .ne 7, 3) := by decide +kernel
theorem dX11_isWord_23 : decode cX11_isWord 23 = .ok (.iconst 1, 1) := by decide +kernel
theorem dX11_isWord_24 : decode cX11_isWord 24 = .ok (.goto 4, 3) := by decide +kernel
theorem dX11_isWord_27 : decode cX11_isWord 27 = .ok (.iconst 0, 1) := by decide +kernel
theorem dX11_isWord_28 : decode cX11_isWord 28 = .ok (.ireturn, 1) := by decide +kernel
def rmX11_isWord : Room := rmk 7 0 0 170
theorem nX11_isWord : nameOk yX11_isWord 1 = true := by decide +kernel
def bX11_isWord_0 (J : JT) : List Value → Sem
  | [.ref x0, .int x1] =>
    ob 11 x0 (cI SX11_fine [.ref x0] fun v1 =>
    br (v1 = 0)
    (rZ 0)
    (gI 11 24 x0 fun v2 =>
    br (v2 = (1 : Int32))
    (gI 11 25 x0 fun v3 =>
    br (v3 = x1)
    (rZ 1)
    (rZ 0))
    (rZ 0)))
  | _ => no
def bX11_isWord (J : JT) : JT := fun L a => match L with
  | 0 => bX11_isWord_0 J a
  | _ => no
def SX11_isWord : ST := mk 2 bX11_isWord
def lX11_isWord (L : Nat) (a : List Value) : Nat × Nat × Nat × List (Nat × Value) × List Value := match L with
  | 0 => (0, 0, 0, lv_args 0 a, [])
  | _ => (0, 0, 0, [], [])
theorem pX11_isWord_0 {Γ : CT} (hC : Ctx Γ "SpiritWallModel" cX11_isWord 2 (some .boolean) rmX11_isWord) (hnt : NT Γ) (J : JT) (hJ : ∀ L a, Cor Γ 2 (lX11_isWord L a).1 (lX11_isWord L a).2.1 (lX11_isWord L a).2.2.1 (lX11_isWord L a).2.2.2.1 (lX11_isWord L a).2.2.2.2 (J L a)) (a : List Value) : Cor Γ 2 0 0 0 (lv_args 0 a) [] (bX11_isWord_0 J a) := by
  unfold bX11_isWord_0
  split
  · rename_i x0 x1
    refine c_sub [0, 1] rfl (loc' := [(0, .ref x0), (1, .int x1)]) ?_
    refine q_aload_n hC 0 dX11_isWord_0 rfl rfl ?_
    refine q_cVI hC hnt (stk := []) (as := []) sX11_fine (ci := 11) (by decide) rfl nX11_fine rfl w_1207 w_1209 w_1210 w_830 w_1208 (Nat.le_of_ble_eq_true rfl) dX11_isWord_1 rfl (fun v1 => ?_)
    refine q_if_eq hC 27 dX11_isWord_4 rfl ?_ ?_
    · refine q_iconst hC dX11_isWord_27 rfl ?_
      exact q_zret hC dX11_isWord_28 (Nat.le_of_ble_eq_true rfl) (Nat.le_of_ble_eq_true rfl)
    · refine q_aload_n hC 0 dX11_isWord_7 rfl rfl ?_
      refine q_getI hC (by decide) (by decide) rfl w_1191 dX11_isWord_8 (fun v2 => ?_)
      refine q_iconst hC dX11_isWord_11 rfl ?_
      refine q_ic_ne hC 27 dX11_isWord_12 rfl ?_ ?_
      · refine q_iconst hC dX11_isWord_27 rfl ?_
        exact q_zret hC dX11_isWord_28 (Nat.le_of_ble_eq_true rfl) (Nat.le_of_ble_eq_true rfl)
      · refine q_aload_n hC 0 dX11_isWord_15 rfl rfl ?_
        refine q_getI hC (by decide) (by decide) rfl w_1197 dX11_isWord_16 (fun v3 => ?_)
        refine q_iload_n hC 1 dX11_isWord_19 rfl rfl ?_
        refine q_ic_ne hC 27 dX11_isWord_20 rfl ?_ ?_
        · refine q_iconst hC dX11_isWord_27 rfl ?_
          exact q_zret hC dX11_isWord_28 (Nat.le_of_ble_eq_true rfl) (Nat.le_of_ble_eq_true rfl)
        · refine q_iconst hC dX11_isWord_23 rfl ?_
          refine q_goto hC 28 dX11_isWord_24 rfl ?_
          exact q_zret hC dX11_isWord_28 (Nat.le_of_ble_eq_true rfl) (Nat.le_of_ble_eq_true rfl)
  · exact c_no
theorem sX11_isWord : Snd yX11_isWord (.code yX11_isWord cX11_isWord 2 (some .boolean)) rmX11_isWord SX11_isWord := by
  refine Snd.of lX11_isWord (by decide +kernel) (fun _ => rfl) ?_
  intro Γ hC hnt hnm J hJ L a
  match L with
  | 0 => exact pX11_isWord_0 hC hnt J hJ a
  | L + 1 => exact c_no
/-! SpiritWallModel.numberHere(II)I -/
theorem dX11_numberHere_0 : decode cX11_numberHere 0 = .ok (.aload_n 0, 1) := by decide +kernel
theorem dX11_numberHere_1 : decode cX11_numberHere 1 = .ok (.aload_n 0, 1) := by decide +kernel
theorem dX11_numberHere_2 : decode cX11_numberHere 2 = .ok (.getfield 406, 3) := by decide +kernel
theorem dX11_numberHere_5 : decode cX11_numberHere 5 = .ok (.iconst 2, 1) := by decide +kernel
theorem dX11_numberHere_6 : decode cX11_numberHere 6 = .ok (.if_icmp .ne 7, 3) := by decide +kernel
theorem dX11_numberHere_9 : decode cX11_numberHere 9 = .ok (.iconst 1, 1) := by decide +kernel
theorem dX11_numberHere_10 : decode cX11_numberHere 10 = .ok (.goto 4, 3) := by decide +kernel
theorem dX11_numberHere_13 : decode cX11_numberHere 13 = .ok (.iconst 0, 1) := by decide +kernel
theorem dX11_numberHere_14 : decode cX11_numberHere 14 = .ok (.iconst 1, 1) := by decide +kernel
theorem dX11_numberHere_15 : decode cX11_numberHere 15 = .ok (.invokevirtual 451, 3) := by decide +kernel
theorem dX11_numberHere_18 : decode cX11_numberHere 18 = .ok (.aload_n 0, 1) := by decide +kernel
theorem dX11_numberHere_19 : decode cX11_numberHere 19 = .ok (.invokevirtual 444, 3) := by decide +kernel
theorem dX11_numberHere_22 : decode cX11_numberHere 22 = .ok (.ifCond .eq 20, 3) := by decide +kernel
theorem dX11_numberHere_25 : decode cX11_numberHere 25 = .ok (.aload_n 0, 1) := by decide +kernel
theorem dX11_numberHere_26 : decode cX11_numberHere 26 = .ok (.aload_n 0, 1) := by decide +kernel
theorem dX11_numberHere_27 : decode cX11_numberHere 27 = .ok (.getfield 422, 3) := by decide +kernel
theorem dX11_numberHere_30 : decode cX11_numberHere 30 = .ok (.i2l, 1) := by decide +kernel
theorem dX11_numberHere_31 : decode cX11_numberHere 31 = .ok (.iload_n 1, 1) := by decide +kernel
theorem dX11_numberHere_32 : decode cX11_numberHere 32 = .ok (.i2l, 1) := by decide +kernel
theorem dX11_numberHere_33 : decode cX11_numberHere 33 = .ok (.iload_n 2, 1) := by decide +kernel
theorem dX11_numberHere_34 : decode cX11_numberHere 34 = .ok (.i2l, 1) := by decide +kernel
theorem dX11_numberHere_35 : decode cX11_numberHere 35 = .ok (.invokestatic 89, 3) := by decide +kernel
theorem dX11_numberHere_38 : decode cX11_numberHere 38 = .ok (.iconst 2, 1) := by decide +kernel
theorem dX11_numberHere_39 : decode cX11_numberHere 39 = .ok (.invokevirtual 451, 3) := by decide +kernel
theorem dX11_numberHere_42 : decode cX11_numberHere 42 = .ok (.aload_n 0, 1) := by decide +kernel
theorem dX11_numberHere_43 : decode cX11_numberHere 43 = .ok (.getfield 422, 3) := by decide +kernel
theorem dX11_numberHere_46 : decode cX11_numberHere 46 = .ok (.ireturn, 1) := by decide +kernel
def rmX11_numberHere : Room := rmk 7 0 0 175
theorem nX11_numberHere : nameOk yX11_numberHere 2 = true := by decide +kernel
def bX11_numberHere_0 (J : JT) : List Value → Sem
  | [.ref x0, .int x1, .int x2] =>
    gI 11 24 x0 fun v1 =>
    br (v1 = (2 : Int32))
    (ob 11 x0 (cV SX11_needs [.ref x0, .int 1, .int 1] <|
    ob 11 x0 (cI SX11_fine [.ref x0] fun v7 =>
    br (v7 = 0)
    (gI 11 26 x0 fun v8 =>
    rI v8)
    (gI 11 26 x0 fun v9 =>
    cI SX11_isIn [.long (v9.toInt64), .long (x1.toInt64), .long (x2.toInt64)] fun v10 =>
    ob 11 x0 (cV SX11_needs [.ref x0, .int v10, .int 2] <|
    gI 11 26 x0 fun v11 =>
    rI v11)))))
    (ob 11 x0 (cV SX11_needs [.ref x0, .int 0, .int 1] <|
    ob 11 x0 (cI SX11_fine [.ref x0] fun v2 =>
    br (v2 = 0)
    (gI 11 26 x0 fun v3 =>
    rI v3)
    (gI 11 26 x0 fun v4 =>
    cI SX11_isIn [.long (v4.toInt64), .long (x1.toInt64), .long (x2.toInt64)] fun v5 =>
    ob 11 x0 (cV SX11_needs [.ref x0, .int v5, .int 2] <|
    gI 11 26 x0 fun v6 =>
    rI v6)))))
  | _ => no
def bX11_numberHere (J : JT) : JT := fun L a => match L with
  | 0 => bX11_numberHere_0 J a
  | _ => no
def SX11_numberHere : ST := mk 3 bX11_numberHere
def lX11_numberHere (L : Nat) (a : List Value) : Nat × Nat × Nat × List (Nat × Value) × List Value := match L with
  | 0 => (0, 0, 0, lv_args 0 a, [])
  | _ => (0, 0, 0, [], [])
theorem pX11_numberHere_0 {Γ : CT} (hC : Ctx Γ "SpiritWallModel" cX11_numberHere 3 (some .int) rmX11_numberHere) (hnt : NT Γ) (J : JT) (hJ : ∀ L a, Cor Γ 3 (lX11_numberHere L a).1 (lX11_numberHere L a).2.1 (lX11_numberHere L a).2.2.1 (lX11_numberHere L a).2.2.2.1 (lX11_numberHere L a).2.2.2.2 (J L a)) (a : List Value) : Cor Γ 3 0 0 0 (lv_args 0 a) [] (bX11_numberHere_0 J a) := by
  unfold bX11_numberHere_0
  split
  · rename_i x0 x1 x2
    refine c_sub [0, 1, 2] rfl (loc' := [(0, .ref x0), (1, .int x1), (2, .int x2)]) ?_
    refine q_aload_n hC 0 dX11_numberHere_0 rfl rfl ?_
    refine q_aload_n hC 0 dX11_numberHere_1 rfl rfl ?_
    refine q_getI hC (by decide) (by decide) rfl w_1191 dX11_numberHere_2 (fun v1 => ?_)
    refine q_iconst hC dX11_numberHere_5 rfl ?_
    refine q_ic_ne hC 13 dX11_numberHere_6 rfl ?_ ?_
    · refine q_iconst hC dX11_numberHere_13 rfl ?_
      refine q_iconst hC dX11_numberHere_14 rfl ?_
      refine q_cVV hC hnt (stk := []) (as := [.int 0, .int 1]) sX11_needs (ci := 11) (by decide) rfl nX11_needs rfl w_1215 w_1217 w_1218 w_830 w_1216 (Nat.le_of_ble_eq_true rfl) dX11_numberHere_15 rfl ?_
      refine q_aload_n hC 0 dX11_numberHere_18 rfl rfl ?_
      refine q_cVI hC hnt (stk := []) (as := []) sX11_fine (ci := 11) (by decide) rfl nX11_fine rfl w_1207 w_1209 w_1210 w_830 w_1208 (Nat.le_of_ble_eq_true rfl) dX11_numberHere_19 rfl (fun v2 => ?_)
      refine q_if_eq hC 42 dX11_numberHere_22 rfl ?_ ?_
      · refine q_aload_n hC 0 dX11_numberHere_42 rfl rfl ?_
        refine q_getI hC (by decide) (by decide) rfl w_1192 dX11_numberHere_43 (fun v3 => ?_)
        exact q_iret hC dX11_numberHere_46 (Nat.le_of_ble_eq_true rfl) (Nat.le_of_ble_eq_true rfl)
      · refine q_aload_n hC 0 dX11_numberHere_25 rfl rfl ?_
        refine q_aload_n hC 0 dX11_numberHere_26 rfl rfl ?_
        refine q_getI hC (by decide) (by decide) rfl w_1192 dX11_numberHere_27 (fun v4 => ?_)
        refine q_i2l hC dX11_numberHere_30 ?_
        refine q_iload_n hC 1 dX11_numberHere_31 rfl rfl ?_
        refine q_i2l hC dX11_numberHere_32 ?_
        refine q_iload_n hC 2 dX11_numberHere_33 rfl rfl ?_
        refine q_i2l hC dX11_numberHere_34 ?_
        refine q_cSI hC hnt (stk := [.ref x0]) (as := [.long (v4.toInt64), .long (x1.toInt64), .long (x2.toInt64)]) sX11_isIn nX11_isIn rfl w_847 w_849 w_830 w_848 (Nat.le_of_ble_eq_true rfl) dX11_numberHere_35 rfl (fun v5 => ?_)
        refine q_iconst hC dX11_numberHere_38 rfl ?_
        refine q_cVV hC hnt (stk := []) (as := [.int v5, .int 2]) sX11_needs (ci := 11) (by decide) rfl nX11_needs rfl w_1215 w_1217 w_1218 w_830 w_1216 (Nat.le_of_ble_eq_true rfl) dX11_numberHere_39 rfl ?_
        refine q_aload_n hC 0 dX11_numberHere_42 rfl rfl ?_
        refine q_getI hC (by decide) (by decide) rfl w_1192 dX11_numberHere_43 (fun v6 => ?_)
        exact q_iret hC dX11_numberHere_46 (Nat.le_of_ble_eq_true rfl) (Nat.le_of_ble_eq_true rfl)
    · refine q_iconst hC dX11_numberHere_9 rfl ?_
      refine q_goto hC 14 dX11_numberHere_10 rfl ?_
      refine q_iconst hC dX11_numberHere_14 rfl ?_
      refine q_cVV hC hnt (stk := []) (as := [.int 1, .int 1]) sX11_needs (ci := 11) (by decide) rfl nX11_needs rfl w_1215 w_1217 w_1218 w_830 w_1216 (Nat.le_of_ble_eq_true rfl) dX11_numberHere_15 rfl ?_
      refine q_aload_n hC 0 dX11_numberHere_18 rfl rfl ?_
      refine q_cVI hC hnt (stk := []) (as := []) sX11_fine (ci := 11) (by decide) rfl nX11_fine rfl w_1207 w_1209 w_1210 w_830 w_1208 (Nat.le_of_ble_eq_true rfl) dX11_numberHere_19 rfl (fun v7 => ?_)
      refine q_if_eq hC 42 dX11_numberHere_22 rfl ?_ ?_
      · refine q_aload_n hC 0 dX11_numberHere_42 rfl rfl ?_
        refine q_getI hC (by decide) (by decide) rfl w_1192 dX11_numberHere_43 (fun v8 => ?_)
        exact q_iret hC dX11_numberHere_46 (Nat.le_of_ble_eq_true rfl) (Nat.le_of_ble_eq_true rfl)
      · refine q_aload_n hC 0 dX11_numberHere_25 rfl rfl ?_
        refine q_aload_n hC 0 dX11_numberHere_26 rfl rfl ?_
        refine q_getI hC (by decide) (by decide) rfl w_1192 dX11_numberHere_27 (fun v9 => ?_)
        refine q_i2l hC dX11_numberHere_30 ?_
        refine q_iload_n hC 1 dX11_numberHere_31 rfl rfl ?_
        refine q_i2l hC dX11_numberHere_32 ?_
        refine q_iload_n hC 2 dX11_numberHere_33 rfl rfl ?_
        refine q_i2l hC dX11_numberHere_34 ?_
        refine q_cSI hC hnt (stk := [.ref x0]) (as := [.long (v9.toInt64), .long (x1.toInt64), .long (x2.toInt64)]) sX11_isIn nX11_isIn rfl w_847 w_849 w_830 w_848 (Nat.le_of_ble_eq_true rfl) dX11_numberHere_35 rfl (fun v10 => ?_)
        refine q_iconst hC dX11_numberHere_38 rfl ?_
        refine q_cVV hC hnt (stk := []) (as := [.int v10, .int 2]) sX11_needs (ci := 11) (by decide) rfl nX11_needs rfl w_1215 w_1217 w_1218 w_830 w_1216 (Nat.le_of_ble_eq_true rfl) dX11_numberHere_39 rfl ?_
        refine q_aload_n hC 0 dX11_numberHere_42 rfl rfl ?_
        refine q_getI hC (by decide) (by decide) rfl w_1192 dX11_numberHere_43 (fun v11 => ?_)
        exact q_iret hC dX11_numberHere_46 (Nat.le_of_ble_eq_true rfl) (Nat.le_of_ble_eq_true rfl)
  · exact c_no
theorem sX11_numberHere : Snd yX11_numberHere (.code yX11_numberHere cX11_numberHere 3 (some .int)) rmX11_numberHere SX11_numberHere := by
  refine Snd.of lX11_numberHere (by decide +kernel) (fun _ => rfl) ?_
  intro Γ hC hnt hnm J hJ L a
  match L with
  | 0 => exact pX11_numberHere_0 hC hnt J hJ a
  | L + 1 => exact c_no
/-! SpiritWallModel.number(II)I -/
theorem dX11_number_0 : decode cX11_number 0 = .ok (.aload_n 0, 1) := by decide +kernel
theorem dX11_number_1 : decode cX11_number 1 = .ok (.iload_n 1, 1) := by decide +kernel
theorem dX11_number_2 : decode cX11_number 2 = .ok (.iload_n 2, 1) := by decide +kernel
theorem dX11_number_3 : decode cX11_number 3 = .ok (.invokevirtual 455, 3) := by decide +kernel
theorem dX11_number_6 : decode cX11_number 6 = .ok (.istore_n 3, 1) := by decide +kernel
theorem dX11_number_7 : decode cX11_number 7 = .ok (.aload_n 0, 1) := by decide +kernel
theorem dX11_number_8 : decode cX11_number 8 = .ok (.invokevirtual 458, 3) := by decide +kernel
theorem dX11_number_11 : decode cX11_number 11 = .ok (.iload_n 3, 1) := by decide +kernel
theorem dX11_number_12 : decode cX11_number 12 = .ok (.ireturn, 1) := by decide +kernel
def rmX11_number : Room := rmk 24 0 0 685
theorem nX11_number : nameOk yX11_number 2 = true := by decide +kernel
def bX11_number_0 (J : JT) : List Value → Sem
  | [.ref x0, .int x1, .int x2] =>
    ob 11 x0 (cI SX11_numberHere [.ref x0, .int x1, .int x2] fun v1 =>
    ob 11 x0 (cV SX11_goOn [.ref x0] <|
    rI v1))
  | _ => no
def bX11_number (J : JT) : JT := fun L a => match L with
  | 0 => bX11_number_0 J a
  | _ => no
def SX11_number : ST := mk 4 bX11_number
def lX11_number (L : Nat) (a : List Value) : Nat × Nat × Nat × List (Nat × Value) × List Value := match L with
  | 0 => (0, 0, 0, lv_args 0 a, [])
  | _ => (0, 0, 0, [], [])
theorem pX11_number_0 {Γ : CT} (hC : Ctx Γ "SpiritWallModel" cX11_number 4 (some .int) rmX11_number) (hnt : NT Γ) (J : JT) (hJ : ∀ L a, Cor Γ 4 (lX11_number L a).1 (lX11_number L a).2.1 (lX11_number L a).2.2.1 (lX11_number L a).2.2.2.1 (lX11_number L a).2.2.2.2 (J L a)) (a : List Value) : Cor Γ 4 0 0 0 (lv_args 0 a) [] (bX11_number_0 J a) := by
  unfold bX11_number_0
  split
  · rename_i x0 x1 x2
    refine c_sub [0, 1, 2] rfl (loc' := [(0, .ref x0), (1, .int x1), (2, .int x2)]) ?_
    refine q_aload_n hC 0 dX11_number_0 rfl rfl ?_
    refine q_iload_n hC 1 dX11_number_1 rfl rfl ?_
    refine q_iload_n hC 2 dX11_number_2 rfl rfl ?_
    refine q_cVI hC hnt (stk := []) (as := [.int x1, .int x2]) sX11_numberHere (ci := 11) (by decide) rfl nX11_numberHere rfl w_1219 w_1221 w_1222 w_830 w_1220 (Nat.le_of_ble_eq_true rfl) dX11_number_3 rfl (fun v1 => ?_)
    refine q_istore_nA hC (loc' := [(3, .int v1), (0, .ref x0), (1, .int x1), (2, .int x2)]) dX11_number_6 rfl (Nat.le_of_ble_eq_true rfl) rfl ?_
    refine q_aload_n hC 1 dX11_number_7 rfl rfl ?_
    refine q_cVV hC hnt (stk := []) (as := []) sX11_goOn (ci := 11) (by decide) rfl nX11_goOn rfl w_1223 w_1225 w_1226 w_830 w_1224 (Nat.le_of_ble_eq_true rfl) dX11_number_8 rfl ?_
    refine q_iload_n hC 0 dX11_number_11 rfl rfl ?_
    exact q_iret hC dX11_number_12 (Nat.le_of_ble_eq_true rfl) (Nat.le_of_ble_eq_true rfl)
  · exact c_no
theorem sX11_number : Snd yX11_number (.code yX11_number cX11_number 4 (some .int)) rmX11_number SX11_number := by
  refine Snd.of lX11_number (by decide +kernel) (fun _ => rfl) ?_
  intro Γ hC hnt hnm J hJ L a
  match L with
  | 0 => exact pX11_number_0 hC hnt J hJ a
  | L + 1 => exact c_no
/-! SpiritWallModel.signed(II)I -/
theorem dX11_signed_0 : decode cX11_signed 0 = .ok (.aload_n 0, 1) := by decide +kernel
theorem dX11_signed_1 : decode cX11_signed 1 = .ok (.invokevirtual 444, 3) := by decide +kernel
theorem dX11_signed_4 : decode cX11_signed 4 = .ok (.ifCond .eq 15, 3) := by decide +kernel
theorem dX11_signed_7 : decode cX11_signed 7 = .ok (.aload_n 0, 1) := by decide +kernel
theorem dX11_signed_8 : decode cX11_signed 8 = .ok (.getfield 406, 3) := by decide +kernel
theorem dX11_signed_11 : decode cX11_signed 11 = .ok (.iconst 4, 1) := by decide +kernel
theorem dX11_signed_12 : decode cX11_signed 12 = .ok (.if_icmp .ne 7, 3) := by decide +kernel
theorem dX11_signed_15 : decode cX11_signed 15 = .ok (.iconst 1, 1) := by decide +kernel
theorem dX11_signed_16 : decode cX11_signed 16 = .ok (.goto 4, 3) := by decide +kernel
theorem dX11_signed_19 : decode cX11_signed 19 = .ok (.iconst 0, 1) := by decide +kernel
theorem dX11_signed_20 : decode cX11_signed 20 = .ok (.istore_n 3, 1) := by decide +kernel
theorem dX11_signed_21 : decode cX11_signed 21 = .ok (.iload_n 3, 1) := by decide +kernel
theorem dX11_signed_22 : decode cX11_signed 22 = .ok (.ifCond .eq 7, 3) := by decide +kernel
theorem dX11_signed_25 : decode cX11_signed 25 = .ok (.aload_n 0, 1) := by decide +kernel
theorem dX11_signed_26 : decode cX11_signed 26 = .ok (.invokevirtual 458, 3) := by decide +kernel
theorem dX11_signed_29 : decode cX11_signed 29 = .ok (.aload_n 0, 1) := by decide +kernel
theorem dX11_signed_30 : decode cX11_signed 30 = .ok (.iload_n 3, 1) := by decide +kernel
theorem dX11_signed_31 : decode cX11_signed 31 = .ok (.ifCond .eq 7, 3) := by decide +kernel
theorem dX11_signed_34 : decode cX11_signed 34 = .ok (.iconst 0, 1) := by decide +kernel
theorem dX11_signed_35 : decode cX11_signed 35 = .ok (.goto 8, 3) := by decide +kernel
theorem dX11_signed_38 : decode cX11_signed 38 = .ok (.iconst 0, 1) := by decide +kernel
theorem dX11_signed_39 : decode cX11_signed 39 = .ok (.iload_n 1, 1) := by decide +kernel
theorem dX11_signed_40 : decode cX11_signed 40 = .ok (.invokestatic 176, 3) := by decide +kernel
theorem dX11_signed_43 : decode cX11_signed 43 = .ok (.iload_n 3, 1) := by decide +kernel
theorem dX11_signed_44 : decode cX11_signed 44 = .ok (.ifCond .eq 8, 3) := by decide +kernel
theorem dX11_signed_47 : decode cX11_signed 47 = .ok (.iload_n 1, 1) := by decide +kernel
theorem dX11_signed_48 : decode cX11_signed 48 = .ok (.ineg, 1) := by decide +kernel
theorem dX11_signed_49 : decode cX11_signed 49 = .ok (.goto 4, 3) := by decide +kernel
theorem dX11_signed_52 : decode cX11_signed 52 = .ok (.iload_n 2, 1) := by decide +kernel
theorem dX11_signed_53 : decode cX11_signed 53 = .ok (.invokevirtual 461, 3) := by decide +kernel
theorem dX11_signed_56 : decode cX11_signed 56 = .ok (.istore 4, 2) := by decide +kernel
theorem dX11_signed_58 : decode cX11_signed 58 = .ok (.iload_n 3, 1) := by decide +kernel
theorem dX11_signed_59 : decode cX11_signed 59 = .ok (.ifCond .eq 9, 3) := by decide +kernel
theorem dX11_signed_62 : decode cX11_signed 62 = .ok (.iload 4, 2) := by decide +kernel
theorem dX11_signed_64 : decode cX11_signed 64 = .ok (.ineg, 1) := by decide +kernel
theorem dX11_signed_65 : decode cX11_signed 65 = .ok (.goto 5, 3) := by decide +kernel
theorem dX11_signed_68 : decode cX11_signed 68 = .ok (.iload 4, 2) := by decide +kernel
theorem dX11_signed_70 : decode cX11_signed 70 = .ok (.ireturn, 1) := by decide +kernel
def rmX11_signed : Room := rmk 25 0 0 708
theorem nX11_signed : nameOk yX11_signed 2 = true := by decide +kernel
def bX11_signed_0 (J : JT) : List Value → Sem
  | [.ref x0, .int x1, .int x2] =>
    ob 11 x0 (cI SX11_fine [.ref x0] fun v1 =>
    br (v1 = 0)
    (br ((0 : Int32) = 0)
    (J 1 [.ref x0, .int x1, .int x2, .int 0])
    (ob 11 x0 (cV SX11_goOn [.ref x0] <|
    J 1 [.ref x0, .int x1, .int x2, .int 0])))
    (gI 11 24 x0 fun v2 =>
    br (v2 = (4 : Int32))
    (br ((1 : Int32) = 0)
    (J 1 [.ref x0, .int x1, .int x2, .int 1])
    (ob 11 x0 (cV SX11_goOn [.ref x0] <|
    J 1 [.ref x0, .int x1, .int x2, .int 1])))
    (br ((0 : Int32) = 0)
    (J 1 [.ref x0, .int x1, .int x2, .int 0])
    (ob 11 x0 (cV SX11_goOn [.ref x0] <|
    J 1 [.ref x0, .int x1, .int x2, .int 0])))))
  | _ => no
def bX11_signed_1 (J : JT) : List Value → Sem
  | [.ref x0, .int x1, .int x2, .int x3] =>
    br (x3 = 0)
    (cI SJ9_max_7cf53 [.int 0, .int x1] fun v1 =>
    br (x3 = 0)
    (ob 11 x0 (cI SX11_number [.ref x0, .int v1, .int x2] fun v2 =>
    br (x3 = 0)
    (rI v2)
    (rI (-v2))))
    (ob 11 x0 (cI SX11_number [.ref x0, .int v1, .int (-x1)] fun v3 =>
    br (x3 = 0)
    (rI v3)
    (rI (-v3)))))
    (br (x3 = 0)
    (ob 11 x0 (cI SX11_number [.ref x0, .int 0, .int x2] fun v4 =>
    br (x3 = 0)
    (rI v4)
    (rI (-v4))))
    (ob 11 x0 (cI SX11_number [.ref x0, .int 0, .int (-x1)] fun v5 =>
    br (x3 = 0)
    (rI v5)
    (rI (-v5)))))
  | _ => no
def bX11_signed (J : JT) : JT := fun L a => match L with
  | 0 => bX11_signed_0 J a
  | 1 => bX11_signed_1 J a
  | _ => no
def SX11_signed : ST := mk 5 bX11_signed
def lX11_signed (L : Nat) (a : List Value) : Nat × Nat × Nat × List (Nat × Value) × List Value := match L with
  | 0 => (0, 0, 0, lv_args 0 a, [])
  | 1 => (0, 0, 29, List.zip [0, 1, 2, 3] a, [])
  | _ => (0, 0, 0, [], [])
theorem pX11_signed_0 {Γ : CT} (hC : Ctx Γ "SpiritWallModel" cX11_signed 5 (some .int) rmX11_signed) (hnt : NT Γ) (J : JT) (hJ : ∀ L a, Cor Γ 5 (lX11_signed L a).1 (lX11_signed L a).2.1 (lX11_signed L a).2.2.1 (lX11_signed L a).2.2.2.1 (lX11_signed L a).2.2.2.2 (J L a)) (a : List Value) : Cor Γ 5 0 0 0 (lv_args 0 a) [] (bX11_signed_0 J a) := by
  unfold bX11_signed_0
  split
  · rename_i x0 x1 x2
    refine c_sub [0, 1, 2] rfl (loc' := [(0, .ref x0), (1, .int x1), (2, .int x2)]) ?_
    refine q_aload_n hC 0 dX11_signed_0 rfl rfl ?_
    refine q_cVI hC hnt (stk := []) (as := []) sX11_fine (ci := 11) (by decide) rfl nX11_fine rfl w_1207 w_1209 w_1210 w_830 w_1208 (Nat.le_of_ble_eq_true rfl) dX11_signed_1 rfl (fun v1 => ?_)
    refine q_if_eq hC 19 dX11_signed_4 rfl ?_ ?_
    · refine q_iconst hC dX11_signed_19 rfl ?_
      refine q_istore_nA hC (loc' := [(3, .int 0), (0, .ref x0), (1, .int x1), (2, .int x2)]) dX11_signed_20 rfl (Nat.le_of_ble_eq_true rfl) rfl ?_
      refine q_iload_n hC 0 dX11_signed_21 rfl rfl ?_
      refine q_if_eq hC 29 dX11_signed_22 rfl ?_ ?_
      · exact c_sub [1, 2, 3, 0] rfl (hJ 1 [.ref x0, .int x1, .int x2, .int 0])
      · refine q_aload_n hC 1 dX11_signed_25 rfl rfl ?_
        refine q_cVV hC hnt (stk := []) (as := []) sX11_goOn (ci := 11) (by decide) rfl nX11_goOn rfl w_1223 w_1225 w_1226 w_830 w_1224 (Nat.le_of_ble_eq_true rfl) dX11_signed_26 rfl ?_
        exact c_sub [1, 2, 3, 0] rfl (hJ 1 [.ref x0, .int x1, .int x2, .int 0])
    · refine q_aload_n hC 0 dX11_signed_7 rfl rfl ?_
      refine q_getI hC (by decide) (by decide) rfl w_1191 dX11_signed_8 (fun v2 => ?_)
      refine q_iconst hC dX11_signed_11 rfl ?_
      refine q_ic_ne hC 19 dX11_signed_12 rfl ?_ ?_
      · refine q_iconst hC dX11_signed_19 rfl ?_
        refine q_istore_nA hC (loc' := [(3, .int 0), (0, .ref x0), (1, .int x1), (2, .int x2)]) dX11_signed_20 rfl (Nat.le_of_ble_eq_true rfl) rfl ?_
        refine q_iload_n hC 0 dX11_signed_21 rfl rfl ?_
        refine q_if_eq hC 29 dX11_signed_22 rfl ?_ ?_
        · exact c_sub [1, 2, 3, 0] rfl (hJ 1 [.ref x0, .int x1, .int x2, .int 0])
        · refine q_aload_n hC 1 dX11_signed_25 rfl rfl ?_
          refine q_cVV hC hnt (stk := []) (as := []) sX11_goOn (ci := 11) (by decide) rfl nX11_goOn rfl w_1223 w_1225 w_1226 w_830 w_1224 (Nat.le_of_ble_eq_true rfl) dX11_signed_26 rfl ?_
          exact c_sub [1, 2, 3, 0] rfl (hJ 1 [.ref x0, .int x1, .int x2, .int 0])
      · refine q_iconst hC dX11_signed_15 rfl ?_
        refine q_goto hC 20 dX11_signed_16 rfl ?_
        refine q_istore_nA hC (loc' := [(3, .int 1), (0, .ref x0), (1, .int x1), (2, .int x2)]) dX11_signed_20 rfl (Nat.le_of_ble_eq_true rfl) rfl ?_
        refine q_iload_n hC 0 dX11_signed_21 rfl rfl ?_
        refine q_if_eq hC 29 dX11_signed_22 rfl ?_ ?_
        · exact c_sub [1, 2, 3, 0] rfl (hJ 1 [.ref x0, .int x1, .int x2, .int 1])
        · refine q_aload_n hC 1 dX11_signed_25 rfl rfl ?_
          refine q_cVV hC hnt (stk := []) (as := []) sX11_goOn (ci := 11) (by decide) rfl nX11_goOn rfl w_1223 w_1225 w_1226 w_830 w_1224 (Nat.le_of_ble_eq_true rfl) dX11_signed_26 rfl ?_
          exact c_sub [1, 2, 3, 0] rfl (hJ 1 [.ref x0, .int x1, .int x2, .int 1])
  · exact c_no
theorem pX11_signed_1 {Γ : CT} (hC : Ctx Γ "SpiritWallModel" cX11_signed 5 (some .int) rmX11_signed) (hnt : NT Γ) (J : JT) (hJ : ∀ L a, Cor Γ 5 (lX11_signed L a).1 (lX11_signed L a).2.1 (lX11_signed L a).2.2.1 (lX11_signed L a).2.2.2.1 (lX11_signed L a).2.2.2.2 (J L a)) (a : List Value) : Cor Γ 5 0 0 29 (List.zip [0, 1, 2, 3] a) [] (bX11_signed_1 J a) := by
  unfold bX11_signed_1
  split
  · rename_i x0 x1 x2 x3
    refine c_sub [0, 1, 2, 3] rfl (loc' := [(0, .ref x0), (1, .int x1), (2, .int x2), (3, .int x3)]) ?_
    refine q_aload_n hC 0 dX11_signed_29 rfl rfl ?_
    refine q_iload_n hC 3 dX11_signed_30 rfl rfl ?_
    refine q_if_eq hC 38 dX11_signed_31 rfl ?_ ?_
    · refine q_iconst hC dX11_signed_38 rfl ?_
      refine q_iload_n hC 1 dX11_signed_39 rfl rfl ?_
      refine q_cSI hC hnt (stk := [.ref x0]) (as := [.int 0, .int x1]) sJ9_max_7cf53 nJ9_max_7cf53 rfl w_936 w_938 w_351 w_937 (Nat.le_of_ble_eq_true rfl) dX11_signed_40 rfl (fun v1 => ?_)
      refine q_iload_n hC 3 dX11_signed_43 rfl rfl ?_
      refine q_if_eq hC 52 dX11_signed_44 rfl ?_ ?_
      · refine q_iload_n hC 2 dX11_signed_52 rfl rfl ?_
        refine q_cVI hC hnt (stk := []) (as := [.int v1, .int x2]) sX11_number (ci := 11) (by decide) rfl nX11_number rfl w_1227 w_1229 w_1230 w_830 w_1228 (Nat.le_of_ble_eq_true rfl) dX11_signed_53 rfl (fun v2 => ?_)
        refine q_istoreA hC (loc' := [(4, .int v2), (0, .ref x0), (1, .int x1), (2, .int x2), (3, .int x3)]) dX11_signed_56 (Nat.le_of_ble_eq_true rfl) rfl ?_
        refine q_iload_n hC 4 dX11_signed_58 rfl rfl ?_
        refine q_if_eq hC 68 dX11_signed_59 rfl ?_ ?_
        · refine q_iload hC 0 dX11_signed_68 rfl ?_
          exact q_iret hC dX11_signed_70 (Nat.le_of_ble_eq_true rfl) (Nat.le_of_ble_eq_true rfl)
        · refine q_iload hC 0 dX11_signed_62 rfl ?_
          refine q_ineg hC dX11_signed_64 ?_
          refine q_goto hC 70 dX11_signed_65 rfl ?_
          exact q_iret hC dX11_signed_70 (Nat.le_of_ble_eq_true rfl) (Nat.le_of_ble_eq_true rfl)
      · refine q_iload_n hC 1 dX11_signed_47 rfl rfl ?_
        refine q_ineg hC dX11_signed_48 ?_
        refine q_goto hC 53 dX11_signed_49 rfl ?_
        refine q_cVI hC hnt (stk := []) (as := [.int v1, .int (-x1)]) sX11_number (ci := 11) (by decide) rfl nX11_number rfl w_1227 w_1229 w_1230 w_830 w_1228 (Nat.le_of_ble_eq_true rfl) dX11_signed_53 rfl (fun v3 => ?_)
        refine q_istoreA hC (loc' := [(4, .int v3), (0, .ref x0), (1, .int x1), (2, .int x2), (3, .int x3)]) dX11_signed_56 (Nat.le_of_ble_eq_true rfl) rfl ?_
        refine q_iload_n hC 4 dX11_signed_58 rfl rfl ?_
        refine q_if_eq hC 68 dX11_signed_59 rfl ?_ ?_
        · refine q_iload hC 0 dX11_signed_68 rfl ?_
          exact q_iret hC dX11_signed_70 (Nat.le_of_ble_eq_true rfl) (Nat.le_of_ble_eq_true rfl)
        · refine q_iload hC 0 dX11_signed_62 rfl ?_
          refine q_ineg hC dX11_signed_64 ?_
          refine q_goto hC 70 dX11_signed_65 rfl ?_
          exact q_iret hC dX11_signed_70 (Nat.le_of_ble_eq_true rfl) (Nat.le_of_ble_eq_true rfl)
    · refine q_iconst hC dX11_signed_34 rfl ?_
      refine q_goto hC 43 dX11_signed_35 rfl ?_
      refine q_iload_n hC 3 dX11_signed_43 rfl rfl ?_
      refine q_if_eq hC 52 dX11_signed_44 rfl ?_ ?_
      · refine q_iload_n hC 2 dX11_signed_52 rfl rfl ?_
        refine q_cVI hC hnt (stk := []) (as := [.int 0, .int x2]) sX11_number (ci := 11) (by decide) rfl nX11_number rfl w_1227 w_1229 w_1230 w_830 w_1228 (Nat.le_of_ble_eq_true rfl) dX11_signed_53 rfl (fun v4 => ?_)
        refine q_istoreA hC (loc' := [(4, .int v4), (0, .ref x0), (1, .int x1), (2, .int x2), (3, .int x3)]) dX11_signed_56 (Nat.le_of_ble_eq_true rfl) rfl ?_
        refine q_iload_n hC 4 dX11_signed_58 rfl rfl ?_
        refine q_if_eq hC 68 dX11_signed_59 rfl ?_ ?_
        · refine q_iload hC 0 dX11_signed_68 rfl ?_
          exact q_iret hC dX11_signed_70 (Nat.le_of_ble_eq_true rfl) (Nat.le_of_ble_eq_true rfl)
        · refine q_iload hC 0 dX11_signed_62 rfl ?_
          refine q_ineg hC dX11_signed_64 ?_
          refine q_goto hC 70 dX11_signed_65 rfl ?_
          exact q_iret hC dX11_signed_70 (Nat.le_of_ble_eq_true rfl) (Nat.le_of_ble_eq_true rfl)
      · refine q_iload_n hC 1 dX11_signed_47 rfl rfl ?_
        refine q_ineg hC dX11_signed_48 ?_
        refine q_goto hC 53 dX11_signed_49 rfl ?_
        refine q_cVI hC hnt (stk := []) (as := [.int 0, .int (-x1)]) sX11_number (ci := 11) (by decide) rfl nX11_number rfl w_1227 w_1229 w_1230 w_830 w_1228 (Nat.le_of_ble_eq_true rfl) dX11_signed_53 rfl (fun v5 => ?_)
        refine q_istoreA hC (loc' := [(4, .int v5), (0, .ref x0), (1, .int x1), (2, .int x2), (3, .int x3)]) dX11_signed_56 (Nat.le_of_ble_eq_true rfl) rfl ?_
        refine q_iload_n hC 4 dX11_signed_58 rfl rfl ?_
        refine q_if_eq hC 68 dX11_signed_59 rfl ?_ ?_
        · refine q_iload hC 0 dX11_signed_68 rfl ?_
          exact q_iret hC dX11_signed_70 (Nat.le_of_ble_eq_true rfl) (Nat.le_of_ble_eq_true rfl)
        · refine q_iload hC 0 dX11_signed_62 rfl ?_
          refine q_ineg hC dX11_signed_64 ?_
          refine q_goto hC 70 dX11_signed_65 rfl ?_
          exact q_iret hC dX11_signed_70 (Nat.le_of_ble_eq_true rfl) (Nat.le_of_ble_eq_true rfl)
  · exact c_no
theorem sX11_signed : Snd yX11_signed (.code yX11_signed cX11_signed 5 (some .int)) rmX11_signed SX11_signed := by
  refine Snd.of lX11_signed (by decide +kernel) (fun _ => rfl) ?_
  intro Γ hC hnt hnm J hJ L a
  match L with
  | 0 => exact pX11_signed_0 hC hnt J hJ a
  | 1 => exact pX11_signed_1 hC hnt J hJ a
  | L + 2 => exact c_no
/-! SpiritWallModel.nameHere()I -/
theorem dX11_nameHere_0 : decode cX11_nameHere 0 = .ok (.aload_n 0, 1) := by decide +kernel
theorem dX11_nameHere_1 : decode cX11_nameHere 1 = .ok (.aload_n 0, 1) := by decide +kernel
theorem dX11_nameHere_2 : decode cX11_nameHere 2 = .ok (.getfield 406, 3) := by decide +kernel
theorem dX11_nameHere_5 : decode cX11_nameHere 5 = .ok (.iconst 1, 1) := by decide +kernel
theorem dX11_nameHere_6 : decode cX11_nameHere 6 = .ok (.if_icmp .ne 29, 3) := by decide +kernel
theorem dX11_nameHere_9 : decode cX11_nameHere 9 = .ok (.aload_n 0, 1) := by decide +kernel
theorem dX11_nameHere_10 : decode cX11_nameHere 10 = .ok (.getfield 415, 3) := by decide +kernel
theorem dX11_nameHere_13 : decode cX11_nameHere 13 = .ok (.iconst (-1), 1) := by decide +kernel
theorem dX11_nameHere_14 : decode cX11_nameHere 14 = .ok (.if_icmp .ne 21, 3) := by decide +kernel
theorem dX11_nameHere_17 : decode cX11_nameHere 17 = .ok (.aload_n 0, 1) := by decide +kernel
theorem dX11_nameHere_18 : decode cX11_nameHere 18 = .ok (.getfield 400, 3) := by decide +kernel
theorem dX11_nameHere_21 : decode cX11_nameHere 21 = .ok (.aload_n 0, 1) := by decide +kernel
theorem dX11_nameHere_22 : decode cX11_nameHere 22 = .ok (.getfield 403, 3) := by decide +kernel
theorem dX11_nameHere_25 : decode cX11_nameHere 25 = .ok (.isub, 1) := by decide +kernel
theorem dX11_nameHere_26 : decode cX11_nameHere 26 = .ok (.bipush 6, 2) := by decide +kernel
theorem dX11_nameHere_28 : decode cX11_nameHere 28 = .ok (.if_icmp .gt 7, 3) := by decide +kernel
theorem dX11_nameHere_31 : decode cX11_nameHere 31 = .ok (.iconst 1, 1) := by decide +kernel
theorem dX11_nameHere_32 : decode cX11_nameHere 32 = .ok (.goto 4, 3) := by decide +kernel
theorem dX11_nameHere_35 : decode cX11_nameHere 35 = .ok (.iconst 0, 1) := by decide +kernel
theorem dX11_nameHere_36 : decode cX11_nameHere 36 = .ok (.iconst 1, 1) := by decide +kernel
theorem dX11_nameHere_37 : decode cX11_nameHere 37 = .ok (.invokevirtual 451, 3) := by decide +kernel
theorem dX11_nameHere_40 : decode cX11_nameHere 40 = .ok (.aload_n 0, 1) := by decide +kernel
theorem dX11_nameHere_41 : decode cX11_nameHere 41 = .ok (.invokevirtual 444, 3) := by decide +kernel
theorem dX11_nameHere_44 : decode cX11_nameHere 44 = .ok (.ifCond .eq 23, 3) := by decide +kernel
theorem dX11_nameHere_47 : decode cX11_nameHere 47 = .ok (.aload_n 0, 1) := by decide +kernel
theorem dX11_nameHere_48 : decode cX11_nameHere 48 = .ok (.aload_n 0, 1) := by decide +kernel
theorem dX11_nameHere_49 : decode cX11_nameHere 49 = .ok (.getfield 403, 3) := by decide +kernel
theorem dX11_nameHere_52 : decode cX11_nameHere 52 = .ok (.aload_n 0, 1) := by decide +kernel
theorem dX11_nameHere_53 : decode cX11_nameHere 53 = .ok (.getfield 400, 3) := by decide +kernel
theorem dX11_nameHere_56 : decode cX11_nameHere 56 = .ok (.aload_n 0, 1) := by decide +kernel
theorem dX11_nameHere_57 : decode cX11_nameHere 57 = .ok (.getfield 403, 3) := by decide +kernel
theorem dX11_nameHere_60 : decode cX11_nameHere 60 = .ok (.isub, 1) := by decide +kernel
theorem dX11_nameHere_61 : decode cX11_nameHere 61 = .ok (.invokevirtual 435, 3) := by decide +kernel
theorem dX11_nameHere_64 : decode cX11_nameHere 64 = .ok (.goto 4, 3) := by decide +kernel
theorem dX11_nameHere_67 : decode cX11_nameHere 67 = .ok (.iconst 0, 1) := by decide +kernel
theorem dX11_nameHere_68 : decode cX11_nameHere 68 = .ok (.ireturn, 1) := by decide +kernel
def rmX11_nameHere : Room := rmk 8 0 0 200
theorem nX11_nameHere : nameOk yX11_nameHere 0 = true := by decide +kernel
def bX11_nameHere_0 (J : JT) : List Value → Sem
  | [.ref x0] =>
    gI 11 24 x0 fun v1 =>
    br (v1 = (1 : Int32))
    (gI 11 25 x0 fun v7 =>
    br (v7 = ((-1) : Int32))
    (gI 11 22 x0 fun v13 =>
    gI 11 23 x0 fun v14 =>
    br ((6 : Int32) < (v13 - v14))
    (ob 11 x0 (cV SX11_needs [.ref x0, .int 0, .int 1] <|
    ob 11 x0 (cI SX11_fine [.ref x0] fun v15 =>
    br (v15 = 0)
    (rI 0)
    (gI 11 23 x0 fun v16 =>
    gI 11 22 x0 fun v17 =>
    gI 11 23 x0 fun v18 =>
    ob 11 x0 (cI SX11_nameAt [.ref x0, .int v16, .int (v17 - v18)] fun v19 =>
    rI v19)))))
    (ob 11 x0 (cV SX11_needs [.ref x0, .int 1, .int 1] <|
    ob 11 x0 (cI SX11_fine [.ref x0] fun v20 =>
    br (v20 = 0)
    (rI 0)
    (gI 11 23 x0 fun v21 =>
    gI 11 22 x0 fun v22 =>
    gI 11 23 x0 fun v23 =>
    ob 11 x0 (cI SX11_nameAt [.ref x0, .int v21, .int (v22 - v23)] fun v24 =>
    rI v24))))))
    (ob 11 x0 (cV SX11_needs [.ref x0, .int 0, .int 1] <|
    ob 11 x0 (cI SX11_fine [.ref x0] fun v8 =>
    br (v8 = 0)
    (rI 0)
    (gI 11 23 x0 fun v9 =>
    gI 11 22 x0 fun v10 =>
    gI 11 23 x0 fun v11 =>
    ob 11 x0 (cI SX11_nameAt [.ref x0, .int v9, .int (v10 - v11)] fun v12 =>
    rI v12))))))
    (ob 11 x0 (cV SX11_needs [.ref x0, .int 0, .int 1] <|
    ob 11 x0 (cI SX11_fine [.ref x0] fun v2 =>
    br (v2 = 0)
    (rI 0)
    (gI 11 23 x0 fun v3 =>
    gI 11 22 x0 fun v4 =>
    gI 11 23 x0 fun v5 =>
    ob 11 x0 (cI SX11_nameAt [.ref x0, .int v3, .int (v4 - v5)] fun v6 =>
    rI v6)))))
  | _ => no
def bX11_nameHere (J : JT) : JT := fun L a => match L with
  | 0 => bX11_nameHere_0 J a
  | _ => no
def SX11_nameHere : ST := mk 1 bX11_nameHere
def lX11_nameHere (L : Nat) (a : List Value) : Nat × Nat × Nat × List (Nat × Value) × List Value := match L with
  | 0 => (0, 0, 0, lv_args 0 a, [])
  | _ => (0, 0, 0, [], [])
theorem pX11_nameHere_0 {Γ : CT} (hC : Ctx Γ "SpiritWallModel" cX11_nameHere 1 (some .int) rmX11_nameHere) (hnt : NT Γ) (J : JT) (hJ : ∀ L a, Cor Γ 1 (lX11_nameHere L a).1 (lX11_nameHere L a).2.1 (lX11_nameHere L a).2.2.1 (lX11_nameHere L a).2.2.2.1 (lX11_nameHere L a).2.2.2.2 (J L a)) (a : List Value) : Cor Γ 1 0 0 0 (lv_args 0 a) [] (bX11_nameHere_0 J a) := by
  unfold bX11_nameHere_0
  split
  · rename_i x0
    refine c_sub [0] rfl (loc' := [(0, .ref x0)]) ?_
    refine q_aload_n hC 0 dX11_nameHere_0 rfl rfl ?_
    refine q_aload_n hC 0 dX11_nameHere_1 rfl rfl ?_
    refine q_getI hC (by decide) (by decide) rfl w_1191 dX11_nameHere_2 (fun v1 => ?_)
    refine q_iconst hC dX11_nameHere_5 rfl ?_
    refine q_ic_ne hC 35 dX11_nameHere_6 rfl ?_ ?_
    · refine q_iconst hC dX11_nameHere_35 rfl ?_
      refine q_iconst hC dX11_nameHere_36 rfl ?_
      refine q_cVV hC hnt (stk := []) (as := [.int 0, .int 1]) sX11_needs (ci := 11) (by decide) rfl nX11_needs rfl w_1215 w_1217 w_1218 w_830 w_1216 (Nat.le_of_ble_eq_true rfl) dX11_nameHere_37 rfl ?_
      refine q_aload_n hC 0 dX11_nameHere_40 rfl rfl ?_
      refine q_cVI hC hnt (stk := []) (as := []) sX11_fine (ci := 11) (by decide) rfl nX11_fine rfl w_1207 w_1209 w_1210 w_830 w_1208 (Nat.le_of_ble_eq_true rfl) dX11_nameHere_41 rfl (fun v2 => ?_)
      refine q_if_eq hC 67 dX11_nameHere_44 rfl ?_ ?_
      · refine q_iconst hC dX11_nameHere_67 rfl ?_
        exact q_iret hC dX11_nameHere_68 (Nat.le_of_ble_eq_true rfl) (Nat.le_of_ble_eq_true rfl)
      · refine q_aload_n hC 0 dX11_nameHere_47 rfl rfl ?_
        refine q_aload_n hC 0 dX11_nameHere_48 rfl rfl ?_
        refine q_getI hC (by decide) (by decide) rfl w_1183 dX11_nameHere_49 (fun v3 => ?_)
        refine q_aload_n hC 0 dX11_nameHere_52 rfl rfl ?_
        refine q_getI hC (by decide) (by decide) rfl w_1184 dX11_nameHere_53 (fun v4 => ?_)
        refine q_aload_n hC 0 dX11_nameHere_56 rfl rfl ?_
        refine q_getI hC (by decide) (by decide) rfl w_1183 dX11_nameHere_57 (fun v5 => ?_)
        refine q_isub hC dX11_nameHere_60 ?_
        refine q_cVI hC hnt (stk := []) (as := [.int v3, .int (v4 - v5)]) sX11_nameAt (ci := 11) (by decide) rfl nX11_nameAt rfl w_1198 w_1200 w_1201 w_830 w_1199 (Nat.le_of_ble_eq_true rfl) dX11_nameHere_61 rfl (fun v6 => ?_)
        refine q_goto hC 68 dX11_nameHere_64 rfl ?_
        exact q_iret hC dX11_nameHere_68 (Nat.le_of_ble_eq_true rfl) (Nat.le_of_ble_eq_true rfl)
    · refine q_aload_n hC 0 dX11_nameHere_9 rfl rfl ?_
      refine q_getI hC (by decide) (by decide) rfl w_1197 dX11_nameHere_10 (fun v7 => ?_)
      refine q_iconst hC dX11_nameHere_13 rfl ?_
      refine q_ic_ne hC 35 dX11_nameHere_14 rfl ?_ ?_
      · refine q_iconst hC dX11_nameHere_35 rfl ?_
        refine q_iconst hC dX11_nameHere_36 rfl ?_
        refine q_cVV hC hnt (stk := []) (as := [.int 0, .int 1]) sX11_needs (ci := 11) (by decide) rfl nX11_needs rfl w_1215 w_1217 w_1218 w_830 w_1216 (Nat.le_of_ble_eq_true rfl) dX11_nameHere_37 rfl ?_
        refine q_aload_n hC 0 dX11_nameHere_40 rfl rfl ?_
        refine q_cVI hC hnt (stk := []) (as := []) sX11_fine (ci := 11) (by decide) rfl nX11_fine rfl w_1207 w_1209 w_1210 w_830 w_1208 (Nat.le_of_ble_eq_true rfl) dX11_nameHere_41 rfl (fun v8 => ?_)
        refine q_if_eq hC 67 dX11_nameHere_44 rfl ?_ ?_
        · refine q_iconst hC dX11_nameHere_67 rfl ?_
          exact q_iret hC dX11_nameHere_68 (Nat.le_of_ble_eq_true rfl) (Nat.le_of_ble_eq_true rfl)
        · refine q_aload_n hC 0 dX11_nameHere_47 rfl rfl ?_
          refine q_aload_n hC 0 dX11_nameHere_48 rfl rfl ?_
          refine q_getI hC (by decide) (by decide) rfl w_1183 dX11_nameHere_49 (fun v9 => ?_)
          refine q_aload_n hC 0 dX11_nameHere_52 rfl rfl ?_
          refine q_getI hC (by decide) (by decide) rfl w_1184 dX11_nameHere_53 (fun v10 => ?_)
          refine q_aload_n hC 0 dX11_nameHere_56 rfl rfl ?_
          refine q_getI hC (by decide) (by decide) rfl w_1183 dX11_nameHere_57 (fun v11 => ?_)
          refine q_isub hC dX11_nameHere_60 ?_
          refine q_cVI hC hnt (stk := []) (as := [.int v9, .int (v10 - v11)]) sX11_nameAt (ci := 11) (by decide) rfl nX11_nameAt rfl w_1198 w_1200 w_1201 w_830 w_1199 (Nat.le_of_ble_eq_true rfl) dX11_nameHere_61 rfl (fun v12 => ?_)
          refine q_goto hC 68 dX11_nameHere_64 rfl ?_
          exact q_iret hC dX11_nameHere_68 (Nat.le_of_ble_eq_true rfl) (Nat.le_of_ble_eq_true rfl)
      · refine q_aload_n hC 0 dX11_nameHere_17 rfl rfl ?_
        refine q_getI hC (by decide) (by decide) rfl w_1184 dX11_nameHere_18 (fun v13 => ?_)
        refine q_aload_n hC 0 dX11_nameHere_21 rfl rfl ?_
        refine q_getI hC (by decide) (by decide) rfl w_1183 dX11_nameHere_22 (fun v14 => ?_)
        refine q_isub hC dX11_nameHere_25 ?_
        refine q_bipush hC (v := 6) dX11_nameHere_26 rfl ?_
        refine q_ic_gt hC 35 dX11_nameHere_28 rfl ?_ ?_
        · refine q_iconst hC dX11_nameHere_35 rfl ?_
          refine q_iconst hC dX11_nameHere_36 rfl ?_
          refine q_cVV hC hnt (stk := []) (as := [.int 0, .int 1]) sX11_needs (ci := 11) (by decide) rfl nX11_needs rfl w_1215 w_1217 w_1218 w_830 w_1216 (Nat.le_of_ble_eq_true rfl) dX11_nameHere_37 rfl ?_
          refine q_aload_n hC 0 dX11_nameHere_40 rfl rfl ?_
          refine q_cVI hC hnt (stk := []) (as := []) sX11_fine (ci := 11) (by decide) rfl nX11_fine rfl w_1207 w_1209 w_1210 w_830 w_1208 (Nat.le_of_ble_eq_true rfl) dX11_nameHere_41 rfl (fun v15 => ?_)
          refine q_if_eq hC 67 dX11_nameHere_44 rfl ?_ ?_
          · refine q_iconst hC dX11_nameHere_67 rfl ?_
            exact q_iret hC dX11_nameHere_68 (Nat.le_of_ble_eq_true rfl) (Nat.le_of_ble_eq_true rfl)
          · refine q_aload_n hC 0 dX11_nameHere_47 rfl rfl ?_
            refine q_aload_n hC 0 dX11_nameHere_48 rfl rfl ?_
            refine q_getI hC (by decide) (by decide) rfl w_1183 dX11_nameHere_49 (fun v16 => ?_)
            refine q_aload_n hC 0 dX11_nameHere_52 rfl rfl ?_
            refine q_getI hC (by decide) (by decide) rfl w_1184 dX11_nameHere_53 (fun v17 => ?_)
            refine q_aload_n hC 0 dX11_nameHere_56 rfl rfl ?_
            refine q_getI hC (by decide) (by decide) rfl w_1183 dX11_nameHere_57 (fun v18 => ?_)
            refine q_isub hC dX11_nameHere_60 ?_
            refine q_cVI hC hnt (stk := []) (as := [.int v16, .int (v17 - v18)]) sX11_nameAt (ci := 11) (by decide) rfl nX11_nameAt rfl w_1198 w_1200 w_1201 w_830 w_1199 (Nat.le_of_ble_eq_true rfl) dX11_nameHere_61 rfl (fun v19 => ?_)
            refine q_goto hC 68 dX11_nameHere_64 rfl ?_
            exact q_iret hC dX11_nameHere_68 (Nat.le_of_ble_eq_true rfl) (Nat.le_of_ble_eq_true rfl)
        · refine q_iconst hC dX11_nameHere_31 rfl ?_
          refine q_goto hC 36 dX11_nameHere_32 rfl ?_
          refine q_iconst hC dX11_nameHere_36 rfl ?_
          refine q_cVV hC hnt (stk := []) (as := [.int 1, .int 1]) sX11_needs (ci := 11) (by decide) rfl nX11_needs rfl w_1215 w_1217 w_1218 w_830 w_1216 (Nat.le_of_ble_eq_true rfl) dX11_nameHere_37 rfl ?_
          refine q_aload_n hC 0 dX11_nameHere_40 rfl rfl ?_
          refine q_cVI hC hnt (stk := []) (as := []) sX11_fine (ci := 11) (by decide) rfl nX11_fine rfl w_1207 w_1209 w_1210 w_830 w_1208 (Nat.le_of_ble_eq_true rfl) dX11_nameHere_41 rfl (fun v20 => ?_)
          refine q_if_eq hC 67 dX11_nameHere_44 rfl ?_ ?_
          · refine q_iconst hC dX11_nameHere_67 rfl ?_
            exact q_iret hC dX11_nameHere_68 (Nat.le_of_ble_eq_true rfl) (Nat.le_of_ble_eq_true rfl)
          · refine q_aload_n hC 0 dX11_nameHere_47 rfl rfl ?_
            refine q_aload_n hC 0 dX11_nameHere_48 rfl rfl ?_
            refine q_getI hC (by decide) (by decide) rfl w_1183 dX11_nameHere_49 (fun v21 => ?_)
            refine q_aload_n hC 0 dX11_nameHere_52 rfl rfl ?_
            refine q_getI hC (by decide) (by decide) rfl w_1184 dX11_nameHere_53 (fun v22 => ?_)
            refine q_aload_n hC 0 dX11_nameHere_56 rfl rfl ?_
            refine q_getI hC (by decide) (by decide) rfl w_1183 dX11_nameHere_57 (fun v23 => ?_)
            refine q_isub hC dX11_nameHere_60 ?_
            refine q_cVI hC hnt (stk := []) (as := [.int v21, .int (v22 - v23)]) sX11_nameAt (ci := 11) (by decide) rfl nX11_nameAt rfl w_1198 w_1200 w_1201 w_830 w_1199 (Nat.le_of_ble_eq_true rfl) dX11_nameHere_61 rfl (fun v24 => ?_)
            refine q_goto hC 68 dX11_nameHere_64 rfl ?_
            exact q_iret hC dX11_nameHere_68 (Nat.le_of_ble_eq_true rfl) (Nat.le_of_ble_eq_true rfl)
  · exact c_no
theorem sX11_nameHere : Snd yX11_nameHere (.code yX11_nameHere cX11_nameHere 1 (some .int)) rmX11_nameHere SX11_nameHere := by
  refine Snd.of lX11_nameHere (by decide +kernel) (fun _ => rfl) ?_
  intro Γ hC hnt hnm J hJ L a
  match L with
  | 0 => exact pX11_nameHere_0 hC hnt J hJ a
  | L + 1 => exact c_no
/-! SpiritWallModel.isPlaceOf(I)Z -/
theorem dX11_isPlaceOf_0 : decode cX11_isPlaceOf 0 = .ok (.iconst 0, 1) := by decide +kernel
theorem dX11_isPlaceOf_1 : decode cX11_isPlaceOf 1 = .ok (.istore_n 2, 1) := by decide +kernel
theorem dX11_isPlaceOf_2 : decode cX11_isPlaceOf 2 = .ok (.iload_n 2, 1) := by decide +kernel
theorem dX11_isPlaceOf_3 : decode cX11_isPlaceOf 3 = .ok (.aload_n 0, 1) := by decide +kernel
theorem dX11_isPlaceOf_4 : decode cX11_isPlaceOf 4 = .ok (.invokevirtual 85, 3) := by decide +kernel
theorem dX11_isPlaceOf_7 : decode cX11_isPlaceOf 7 = .ok (.if_icmp .ge 21, 3) := by decide +kernel
theorem dX11_isPlaceOf_10 : decode cX11_isPlaceOf 10 = .ok (.aload_n 0, 1) := by decide +kernel
theorem dX11_isPlaceOf_11 : decode cX11_isPlaceOf 11 = .ok (.iload_n 2, 1) := by decide +kernel
theorem dX11_isPlaceOf_12 : decode cX11_isPlaceOf 12 = .ok (.iconst 1, 1) := by decide +kernel
theorem dX11_isPlaceOf_13 : decode cX11_isPlaceOf 13 = .ok (.invokevirtual 104, 3) := by decide +kernel
theorem dX11_isPlaceOf_16 : decode cX11_isPlaceOf 16 = .ok (.iload_n 1, 1) := by decide +kernel
theorem dX11_isPlaceOf_17 : decode cX11_isPlaceOf 17 = .ok (.if_icmp .ne 5, 3) := by decide +kernel
theorem dX11_isPlaceOf_20 : decode cX11_isPlaceOf 20 = .ok (.iconst 1, 1) := by decide +kernel
theorem dX11_isPlaceOf_21 : decode cX11_isPlaceOf 21 = .ok (.ireturn, 1) := by decide +kernel
theorem dX11_isPlaceOf_22 : decode cX11_isPlaceOf 22 = .ok (.iinc 2 1, 3) := by decide +kernel
theorem dX11_isPlaceOf_25 : decode cX11_isPlaceOf 25 = .ok (.goto (-23), 3) := by decide +kernel
theorem dX11_isPlaceOf_28 : decode cX11_isPlaceOf 28 = .ok (.iconst 0, 1) := by decide +kernel
theorem dX11_isPlaceOf_29 : decode cX11_isPlaceOf 29 = .ok (.ireturn, 1) := by decide +kernel
def rmX11_isPlaceOf : Room := rmk 7 0 0 172
theorem nX11_isPlaceOf : nameOk yX11_isPlaceOf 1 = true := by decide +kernel
def bX11_isPlaceOf_0 (J : JT) : List Value → Sem
  | [.ref x0, .int x1] =>
    J 1 [.ref x0, .int x1, .int 0]
  | _ => no
def bX11_isPlaceOf_1 (J : JT) : List Value → Sem
  | [.ref x0, .int x1, .int x2] =>
    ob 11 x0 (cI SX11_marks [.ref x0] fun v1 =>
    br (v1 ≤ x2)
    (rZ 0)
    (ob 11 x0 (cI SX11_of [.ref x0, .int x2, .int 1] fun v2 =>
    br (v2 = x1)
    (rZ 1)
    (J 1 [.ref x0, .int x1, .int (x2 + 1)]))))
  | _ => no
def bX11_isPlaceOf (J : JT) : JT := fun L a => match L with
  | 0 => bX11_isPlaceOf_0 J a
  | 1 => bX11_isPlaceOf_1 J a
  | _ => no
def SX11_isPlaceOf : ST := mk 3 bX11_isPlaceOf
def lX11_isPlaceOf (L : Nat) (a : List Value) : Nat × Nat × Nat × List (Nat × Value) × List Value := match L with
  | 0 => (0, 0, 0, lv_args 0 a, [])
  | 1 => (0, 0, 2, List.zip [0, 1, 2] a, [])
  | _ => (0, 0, 0, [], [])
theorem pX11_isPlaceOf_0 {Γ : CT} (hC : Ctx Γ "SpiritWallModel" cX11_isPlaceOf 3 (some .boolean) rmX11_isPlaceOf) (hnt : NT Γ) (J : JT) (hJ : ∀ L a, Cor Γ 3 (lX11_isPlaceOf L a).1 (lX11_isPlaceOf L a).2.1 (lX11_isPlaceOf L a).2.2.1 (lX11_isPlaceOf L a).2.2.2.1 (lX11_isPlaceOf L a).2.2.2.2 (J L a)) (a : List Value) : Cor Γ 3 0 0 0 (lv_args 0 a) [] (bX11_isPlaceOf_0 J a) := by
  unfold bX11_isPlaceOf_0
  split
  · rename_i x0 x1
    refine c_sub [0, 1] rfl (loc' := [(0, .ref x0), (1, .int x1)]) ?_
    refine q_iconst hC dX11_isPlaceOf_0 rfl ?_
    refine q_istore_nA hC (loc' := [(2, .int 0), (0, .ref x0), (1, .int x1)]) dX11_isPlaceOf_1 rfl (Nat.le_of_ble_eq_true rfl) rfl ?_
    exact c_sub [1, 2, 0] rfl (hJ 1 [.ref x0, .int x1, .int 0])
  · exact c_no
theorem pX11_isPlaceOf_1 {Γ : CT} (hC : Ctx Γ "SpiritWallModel" cX11_isPlaceOf 3 (some .boolean) rmX11_isPlaceOf) (hnt : NT Γ) (J : JT) (hJ : ∀ L a, Cor Γ 3 (lX11_isPlaceOf L a).1 (lX11_isPlaceOf L a).2.1 (lX11_isPlaceOf L a).2.2.1 (lX11_isPlaceOf L a).2.2.2.1 (lX11_isPlaceOf L a).2.2.2.2 (J L a)) (a : List Value) : Cor Γ 3 0 0 2 (List.zip [0, 1, 2] a) [] (bX11_isPlaceOf_1 J a) := by
  unfold bX11_isPlaceOf_1
  split
  · rename_i x0 x1 x2
    refine c_sub [0, 1, 2] rfl (loc' := [(0, .ref x0), (1, .int x1), (2, .int x2)]) ?_
    refine q_iload_n hC 2 dX11_isPlaceOf_2 rfl rfl ?_
    refine q_aload_n hC 0 dX11_isPlaceOf_3 rfl rfl ?_
    refine q_cVI hC hnt (stk := [.int x2]) (as := []) sX11_marks (ci := 11) (by decide) rfl nX11_marks rfl w_843 w_845 w_846 w_830 w_844 (Nat.le_of_ble_eq_true rfl) dX11_isPlaceOf_4 rfl (fun v1 => ?_)
    refine q_ic_ge hC 28 dX11_isPlaceOf_7 rfl ?_ ?_
    · refine q_iconst hC dX11_isPlaceOf_28 rfl ?_
      exact q_zret hC dX11_isPlaceOf_29 (Nat.le_of_ble_eq_true rfl) (Nat.le_of_ble_eq_true rfl)
    · refine q_aload_n hC 0 dX11_isPlaceOf_10 rfl rfl ?_
      refine q_iload_n hC 2 dX11_isPlaceOf_11 rfl rfl ?_
      refine q_iconst hC dX11_isPlaceOf_12 rfl ?_
      refine q_cVI hC hnt (stk := []) (as := [.int x2, .int 1]) sX11_of (ci := 11) (by decide) rfl nX11_of rfl w_862 w_864 w_865 w_830 w_863 (Nat.le_of_ble_eq_true rfl) dX11_isPlaceOf_13 rfl (fun v2 => ?_)
      refine q_iload_n hC 1 dX11_isPlaceOf_16 rfl rfl ?_
      refine q_ic_ne hC 22 dX11_isPlaceOf_17 rfl ?_ ?_
      · refine q_iincA hC (loc' := [(2, .int (x2 + 1)), (0, .ref x0), (1, .int x1)]) 2 1 dX11_isPlaceOf_22 rfl rfl (Nat.le_of_ble_eq_true rfl) rfl ?_
        refine q_goto hC 2 dX11_isPlaceOf_25 rfl ?_
        exact c_sub [1, 2, 0] rfl (hJ 1 [.ref x0, .int x1, .int (x2 + 1)])
      · refine q_iconst hC dX11_isPlaceOf_20 rfl ?_
        exact q_zret hC dX11_isPlaceOf_21 (Nat.le_of_ble_eq_true rfl) (Nat.le_of_ble_eq_true rfl)
  · exact c_no
theorem sX11_isPlaceOf : Snd yX11_isPlaceOf (.code yX11_isPlaceOf cX11_isPlaceOf 3 (some .boolean)) rmX11_isPlaceOf SX11_isPlaceOf := by
  refine Snd.of lX11_isPlaceOf (by decide +kernel) (fun _ => rfl) ?_
  intro Γ hC hnt hnm J hJ L a
  match L with
  | 0 => exact pX11_isPlaceOf_0 hC hnt J hJ a
  | 1 => exact pX11_isPlaceOf_1 hC hnt J hJ a
  | L + 2 => exact c_no
