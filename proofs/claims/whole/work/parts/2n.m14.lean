/-! SpiritWallModel.relaxes(I)Z -/
theorem dX11_relaxes_0 : decode cX11_relaxes 0 = .ok (.lconst 0, 1) := by decide +kernel
theorem dX11_relaxes_1 : decode cX11_relaxes 1 = .ok (.lstore_n 2, 1) := by decide +kernel
theorem dX11_relaxes_2 : decode cX11_relaxes 2 = .ok (.lconst 0, 1) := by decide +kernel
theorem dX11_relaxes_3 : decode cX11_relaxes 3 = .ok (.lstore 4, 2) := by decide +kernel
theorem dX11_relaxes_5 : decode cX11_relaxes 5 = .ok (.iconst 0, 1) := by decide +kernel
theorem dX11_relaxes_6 : decode cX11_relaxes 6 = .ok (.istore 6, 2) := by decide +kernel
theorem dX11_relaxes_8 : decode cX11_relaxes 8 = .ok (.iload 6, 2) := by decide +kernel
theorem dX11_relaxes_10 : decode cX11_relaxes 10 = .ok (.aload_n 0, 1) := by decide +kernel
theorem dX11_relaxes_11 : decode cX11_relaxes 11 = .ok (.invokevirtual 85, 3) := by decide +kernel
theorem dX11_relaxes_14 : decode cX11_relaxes 14 = .ok (.if_icmp .ge 80, 3) := by decide +kernel
theorem dX11_relaxes_17 : decode cX11_relaxes 17 = .ok (.aload_n 0, 1) := by decide +kernel
theorem dX11_relaxes_18 : decode cX11_relaxes 18 = .ok (.iload 6, 2) := by decide +kernel
theorem dX11_relaxes_20 : decode cX11_relaxes 20 = .ok (.iload_n 1, 1) := by decide +kernel
theorem dX11_relaxes_21 : decode cX11_relaxes 21 = .ok (.invokevirtual 173, 3) := by decide +kernel
theorem dX11_relaxes_24 : decode cX11_relaxes 24 = .ok (.ifCond .eq 64, 3) := by decide +kernel
theorem dX11_relaxes_27 : decode cX11_relaxes 27 = .ok (.aload_n 0, 1) := by decide +kernel
theorem dX11_relaxes_28 : decode cX11_relaxes 28 = .ok (.iload 6, 2) := by decide +kernel
theorem dX11_relaxes_30 : decode cX11_relaxes 30 = .ok (.invokevirtual 241, 3) := by decide +kernel
theorem dX11_relaxes_33 : decode cX11_relaxes 33 = .ok (.ifCond .ne 6, 3) := by decide +kernel
theorem dX11_relaxes_36 : decode cX11_relaxes 36 = .ok (.goto 52, 3) := by decide +kernel
theorem dX11_relaxes_39 : decode cX11_relaxes 39 = .ok (.lload_n 2, 1) := by decide +kernel
theorem dX11_relaxes_40 : decode cX11_relaxes 40 = .ok (.aload_n 0, 1) := by decide +kernel
theorem dX11_relaxes_41 : decode cX11_relaxes 41 = .ok (.getfield 37, 3) := by decide +kernel
theorem dX11_relaxes_44 : decode cX11_relaxes 44 = .ok (.iload 6, 2) := by decide +kernel
theorem dX11_relaxes_46 : decode cX11_relaxes 46 = .ok (.iload_n 1, 1) := by decide +kernel
theorem dX11_relaxes_47 : decode cX11_relaxes 47 = .ok (.invokestatic 133, 3) := by decide +kernel
theorem dX11_relaxes_50 : decode cX11_relaxes 50 = .ok (.iaload, 1) := by decide +kernel
theorem dX11_relaxes_51 : decode cX11_relaxes 51 = .ok (.i2l, 1) := by decide +kernel
theorem dX11_relaxes_52 : decode cX11_relaxes 52 = .ok (.aload_n 0, 1) := by decide +kernel
theorem dX11_relaxes_53 : decode cX11_relaxes 53 = .ok (.iload 6, 2) := by decide +kernel
theorem dX11_relaxes_55 : decode cX11_relaxes 55 = .ok (.iconst 4, 1) := by decide +kernel
theorem dX11_relaxes_56 : decode cX11_relaxes 56 = .ok (.invokevirtual 104, 3) := by decide +kernel
theorem dX11_relaxes_59 : decode cX11_relaxes 59 = .ok (.aload_n 0, 1) := by decide +kernel
theorem dX11_relaxes_60 : decode cX11_relaxes 60 = .ok (.iload 6, 2) := by decide +kernel
theorem dX11_relaxes_62 : decode cX11_relaxes 62 = .ok (.iload_n 1, 1) := by decide +kernel
theorem dX11_relaxes_63 : decode cX11_relaxes 63 = .ok (.invokevirtual 199, 3) := by decide +kernel
theorem dX11_relaxes_66 : decode cX11_relaxes 66 = .ok (.iadd, 1) := by decide +kernel
theorem dX11_relaxes_67 : decode cX11_relaxes 67 = .ok (.i2l, 1) := by decide +kernel
theorem dX11_relaxes_68 : decode cX11_relaxes 68 = .ok (.lmul, 1) := by decide +kernel
theorem dX11_relaxes_69 : decode cX11_relaxes 69 = .ok (.ladd, 1) := by decide +kernel
theorem dX11_relaxes_70 : decode cX11_relaxes 70 = .ok (.lstore_n 2, 1) := by decide +kernel
theorem dX11_relaxes_71 : decode cX11_relaxes 71 = .ok (.lload 4, 2) := by decide +kernel
theorem dX11_relaxes_73 : decode cX11_relaxes 73 = .ok (.aload_n 0, 1) := by decide +kernel
theorem dX11_relaxes_74 : decode cX11_relaxes 74 = .ok (.getfield 37, 3) := by decide +kernel
theorem dX11_relaxes_77 : decode cX11_relaxes 77 = .ok (.iload 6, 2) := by decide +kernel
theorem dX11_relaxes_79 : decode cX11_relaxes 79 = .ok (.iload_n 1, 1) := by decide +kernel
theorem dX11_relaxes_80 : decode cX11_relaxes 80 = .ok (.invokestatic 133, 3) := by decide +kernel
theorem dX11_relaxes_83 : decode cX11_relaxes 83 = .ok (.iaload, 1) := by decide +kernel
theorem dX11_relaxes_84 : decode cX11_relaxes 84 = .ok (.i2l, 1) := by decide +kernel
theorem dX11_relaxes_85 : decode cX11_relaxes 85 = .ok (.ladd, 1) := by decide +kernel
theorem dX11_relaxes_86 : decode cX11_relaxes 86 = .ok (.lstore 4, 2) := by decide +kernel
theorem dX11_relaxes_88 : decode cX11_relaxes 88 = .ok (.iinc 6 1, 3) := by decide +kernel
theorem dX11_relaxes_91 : decode cX11_relaxes 91 = .ok (.goto (-83), 3) := by decide +kernel
theorem dX11_relaxes_94 : decode cX11_relaxes 94 = .ok (.lload 4, 2) := by decide +kernel
theorem dX11_relaxes_96 : decode cX11_relaxes 96 = .ok (.lconst 0, 1) := by decide +kernel
theorem dX11_relaxes_97 : decode cX11_relaxes 97 = .ok (.lcmp, 1) := by decide +kernel
theorem dX11_relaxes_98 : decode cX11_relaxes 98 = .ok (.ifCond .ne 5, 3) := by decide +kernel
theorem dX11_relaxes_101 : decode cX11_relaxes 101 = .ok (.iconst 0, 1) := by decide +kernel
theorem dX11_relaxes_102 : decode cX11_relaxes 102 = .ok (.ireturn, 1) := by decide +kernel
theorem dX11_relaxes_103 : decode cX11_relaxes 103 = .ok (.aload_n 0, 1) := by decide +kernel
theorem dX11_relaxes_104 : decode cX11_relaxes 104 = .ok (.iload_n 1, 1) := by decide +kernel
theorem dX11_relaxes_105 : decode cX11_relaxes 105 = .ok (.iconst 4, 1) := by decide +kernel
theorem dX11_relaxes_106 : decode cX11_relaxes 106 = .ok (.invokevirtual 104, 3) := by decide +kernel
theorem dX11_relaxes_109 : decode cX11_relaxes 109 = .ok (.istore 6, 2) := by decide +kernel
theorem dX11_relaxes_111 : decode cX11_relaxes 111 = .ok (.aload_n 0, 1) := by decide +kernel
theorem dX11_relaxes_112 : decode cX11_relaxes 112 = .ok (.iload_n 1, 1) := by decide +kernel
theorem dX11_relaxes_113 : decode cX11_relaxes 113 = .ok (.iconst 4, 1) := by decide +kernel
theorem dX11_relaxes_114 : decode cX11_relaxes 114 = .ok (.lload_n 2, 1) := by decide +kernel
theorem dX11_relaxes_115 : decode cX11_relaxes 115 = .ok (.lload 4, 2) := by decide +kernel
theorem dX11_relaxes_117 : decode cX11_relaxes 117 = .ok (.invokestatic 123, 3) := by decide +kernel
theorem dX11_relaxes_120 : decode cX11_relaxes 120 = .ok (.l2i, 1) := by decide +kernel
theorem dX11_relaxes_121 : decode cX11_relaxes 121 = .ok (.invokevirtual 247, 3) := by decide +kernel
theorem dX11_relaxes_124 : decode cX11_relaxes 124 = .ok (.aload_n 0, 1) := by decide +kernel
theorem dX11_relaxes_125 : decode cX11_relaxes 125 = .ok (.iload_n 1, 1) := by decide +kernel
theorem dX11_relaxes_126 : decode cX11_relaxes 126 = .ok (.iconst 4, 1) := by decide +kernel
theorem dX11_relaxes_127 : decode cX11_relaxes 127 = .ok (.invokevirtual 104, 3) := by decide +kernel
theorem dX11_relaxes_130 : decode cX11_relaxes 130 = .ok (.iload 6, 2) := by decide +kernel
theorem dX11_relaxes_132 : decode cX11_relaxes 132 = .ok (.if_icmp .eq 7, 3) := by decide +kernel
theorem dX11_relaxes_135 : decode cX11_relaxes 135 = .ok (.iconst 1, 1) := by decide +kernel
theorem dX11_relaxes_136 : decode cX11_relaxes 136 = .ok (.goto 4, 3) := by decide +kernel
theorem dX11_relaxes_139 : decode cX11_relaxes 139 = .ok (.iconst 0, 1) := by decide +kernel
theorem dX11_relaxes_140 : decode cX11_relaxes 140 = .ok (.ireturn, 1) := by decide +kernel
def rmX11_relaxes : Room := rmk 8 0 0 193
theorem nX11_relaxes : nameOk yX11_relaxes 1 = true := by decide +kernel
def bX11_relaxes_0 (J : JT) : List Value → Sem
  | [.ref x0, .int x1] =>
    J 1 [.ref x0, .int x1, .long 0, .long 0, .int 0]
  | _ => no
def bX11_relaxes_1 (J : JT) : List Value → Sem
  | [.ref x0, .int x1, .long x2, .long x4, .int x6] =>
    ob 11 x0 (cI SX11_marks [.ref x0] fun v1 =>
    br (v1 ≤ x6)
    (br ((lg_cmp x4 0) = 0)
    (rZ 0)
    (ob 11 x0 (cI SX11_of [.ref x0, .int x1, .int 4] fun v2 =>
    cJ SJ9_floorDiv_f86c9 [.long x2, .long x4] fun v3 =>
    ob 11 x0 (cV SX11_lays [.ref x0, .int x1, .int 4, .int (v3.toInt32)] <|
    ob 11 x0 (cI SX11_of [.ref x0, .int x1, .int 4] fun v4 =>
    br (v4 = v2)
    (rZ 0)
    (rZ 1))))))
    (ob 11 x0 (cI SX11_isEdge [.ref x0, .int x6, .int x1] fun v5 =>
    br (v5 = 0)
    (J 1 [.ref x0, .int x1, .long x2, .long x4, .int (x6 + 1)])
    (ob 11 x0 (cI SX11_hasHeight [.ref x0, .int x6] fun v6 =>
    br (v6 = 0)
    (J 1 [.ref x0, .int x1, .long x2, .long x4, .int (x6 + 1)])
    (gR 11 13 x0 fun r7 =>
    cI SX11_pairOf [.int x6, .int x1] fun v8 =>
    aI r7 v8 fun v9 =>
    ob 11 x0 (cI SX11_of [.ref x0, .int x6, .int 4] fun v10 =>
    ob 11 x0 (cI SX11_riseFrom [.ref x0, .int x6, .int x1] fun v11 =>
    lJ (x2 + ((v9.toInt64) * ((v10 + v11).toInt64))) fun y2_12 =>
    gR 11 13 x0 fun r13 =>
    cI SX11_pairOf [.int x6, .int x1] fun v14 =>
    aI r13 v14 fun v15 =>
    lJ (x4 + (v15.toInt64)) fun y4_16 =>
    J 1 [.ref x0, .int x1, .long y2_12, .long y4_16, .int (x6 + 1)]))))))))
  | _ => no
def bX11_relaxes (J : JT) : JT := fun L a => match L with
  | 0 => bX11_relaxes_0 J a
  | 1 => bX11_relaxes_1 J a
  | _ => no
def SX11_relaxes : ST := mk 7 bX11_relaxes
def lX11_relaxes (L : Nat) (a : List Value) : Nat × Nat × Nat × List (Nat × Value) × List Value := match L with
  | 0 => (0, 0, 0, lv_args 0 a, [])
  | 1 => (0, 0, 8, List.zip [0, 1, 2, 4, 6] a, [])
  | _ => (0, 0, 0, [], [])
theorem pX11_relaxes_0 {Γ : CT} (hC : Ctx Γ "SpiritWallModel" cX11_relaxes 7 (some .boolean) rmX11_relaxes) (hnt : NT Γ) (J : JT) (hJ : ∀ L a, Cor Γ 7 (lX11_relaxes L a).1 (lX11_relaxes L a).2.1 (lX11_relaxes L a).2.2.1 (lX11_relaxes L a).2.2.2.1 (lX11_relaxes L a).2.2.2.2 (J L a)) (a : List Value) : Cor Γ 7 0 0 0 (lv_args 0 a) [] (bX11_relaxes_0 J a) := by
  unfold bX11_relaxes_0
  split
  · rename_i x0 x1
    refine c_sub [0, 1] rfl (loc' := [(0, .ref x0), (1, .int x1)]) ?_
    refine q_lconst hC (v := 0) dX11_relaxes_0 rfl ?_
    refine q_lstore_nA hC (loc' := [(2, .long 0), (0, .ref x0), (1, .int x1)]) dX11_relaxes_1 rfl (Nat.le_of_ble_eq_true rfl) rfl ?_
    refine q_lconst hC (v := 0) dX11_relaxes_2 rfl ?_
    refine q_lstoreA hC (loc' := [(4, .long 0), (2, .long 0), (0, .ref x0), (1, .int x1)]) dX11_relaxes_3 (Nat.le_of_ble_eq_true rfl) rfl ?_
    refine q_iconst hC dX11_relaxes_5 rfl ?_
    refine q_istoreA hC (loc' := [(6, .int 0), (4, .long 0), (2, .long 0), (0, .ref x0), (1, .int x1)]) dX11_relaxes_6 (Nat.le_of_ble_eq_true rfl) rfl ?_
    exact c_sub [3, 4, 2, 1, 0] rfl (hJ 1 [.ref x0, .int x1, .long 0, .long 0, .int 0])
  · exact c_no
theorem pX11_relaxes_1 {Γ : CT} (hC : Ctx Γ "SpiritWallModel" cX11_relaxes 7 (some .boolean) rmX11_relaxes) (hnt : NT Γ) (J : JT) (hJ : ∀ L a, Cor Γ 7 (lX11_relaxes L a).1 (lX11_relaxes L a).2.1 (lX11_relaxes L a).2.2.1 (lX11_relaxes L a).2.2.2.1 (lX11_relaxes L a).2.2.2.2 (J L a)) (a : List Value) : Cor Γ 7 0 0 8 (List.zip [0, 1, 2, 4, 6] a) [] (bX11_relaxes_1 J a) := by
  unfold bX11_relaxes_1
  split
  · rename_i x0 x1 x2 x4 x6
    refine c_sub [0, 1, 2, 3, 4] rfl (loc' := [(0, .ref x0), (1, .int x1), (2, .long x2), (4, .long x4), (6, .int x6)]) ?_
    refine q_iload hC 4 dX11_relaxes_8 rfl ?_
    refine q_aload_n hC 0 dX11_relaxes_10 rfl rfl ?_
    refine q_cVI hC hnt (stk := [.int x6]) (as := []) sX11_marks (ci := 11) (by decide) rfl nX11_marks rfl w_843 w_845 w_846 w_830 w_844 (Nat.le_of_ble_eq_true rfl) dX11_relaxes_11 rfl (fun v1 => ?_)
    refine q_ic_ge hC 94 dX11_relaxes_14 rfl ?_ ?_
    · refine q_lload hC 3 dX11_relaxes_94 rfl ?_
      refine q_lconst hC (v := 0) dX11_relaxes_96 rfl ?_
      refine q_lcmp hC dX11_relaxes_97 ?_
      refine q_if_ne hC 103 dX11_relaxes_98 rfl ?_ ?_
      · refine q_aload_n hC 0 dX11_relaxes_103 rfl rfl ?_
        refine q_iload_n hC 1 dX11_relaxes_104 rfl rfl ?_
        refine q_iconst hC dX11_relaxes_105 rfl ?_
        refine q_cVI hC hnt (stk := []) (as := [.int x1, .int 4]) sX11_of (ci := 11) (by decide) rfl nX11_of rfl w_862 w_864 w_865 w_830 w_863 (Nat.le_of_ble_eq_true rfl) dX11_relaxes_106 rfl (fun v2 => ?_)
        refine q_istoreA hC (loc' := [(6, .int v2), (0, .ref x0), (1, .int x1), (2, .long x2), (4, .long x4)]) dX11_relaxes_109 (Nat.le_of_ble_eq_true rfl) rfl ?_
        refine q_aload_n hC 1 dX11_relaxes_111 rfl rfl ?_
        refine q_iload_n hC 2 dX11_relaxes_112 rfl rfl ?_
        refine q_iconst hC dX11_relaxes_113 rfl ?_
        refine q_lload_n hC 3 dX11_relaxes_114 rfl rfl ?_
        refine q_lload hC 4 dX11_relaxes_115 rfl ?_
        refine q_cSJ hC hnt (stk := [.int 4, .int x1, .ref x0]) (as := [.long x2, .long x4]) sJ9_floorDiv_f86c9 nJ9_floorDiv_f86c9 rfl w_877 w_350 w_351 w_349 (Nat.le_of_ble_eq_true rfl) dX11_relaxes_117 rfl (fun v3 => ?_)
        refine q_l2i hC dX11_relaxes_120 ?_
        refine q_cVV hC hnt (stk := []) (as := [.int x1, .int 4, .int (v3.toInt32)]) sX11_lays (ci := 11) (by decide) rfl nX11_lays rfl w_1024 w_1026 w_1027 w_830 w_1025 (Nat.le_of_ble_eq_true rfl) dX11_relaxes_121 rfl ?_
        refine q_aload_n hC 1 dX11_relaxes_124 rfl rfl ?_
        refine q_iload_n hC 2 dX11_relaxes_125 rfl rfl ?_
        refine q_iconst hC dX11_relaxes_126 rfl ?_
        refine q_cVI hC hnt (stk := []) (as := [.int x1, .int 4]) sX11_of (ci := 11) (by decide) rfl nX11_of rfl w_862 w_864 w_865 w_830 w_863 (Nat.le_of_ble_eq_true rfl) dX11_relaxes_127 rfl (fun v4 => ?_)
        refine q_iload hC 0 dX11_relaxes_130 rfl ?_
        refine q_ic_eq hC 139 dX11_relaxes_132 rfl ?_ ?_
        · refine q_iconst hC dX11_relaxes_139 rfl ?_
          exact q_zret hC dX11_relaxes_140 (Nat.le_of_ble_eq_true rfl) (Nat.le_of_ble_eq_true rfl)
        · refine q_iconst hC dX11_relaxes_135 rfl ?_
          refine q_goto hC 140 dX11_relaxes_136 rfl ?_
          exact q_zret hC dX11_relaxes_140 (Nat.le_of_ble_eq_true rfl) (Nat.le_of_ble_eq_true rfl)
      · refine q_iconst hC dX11_relaxes_101 rfl ?_
        exact q_zret hC dX11_relaxes_102 (Nat.le_of_ble_eq_true rfl) (Nat.le_of_ble_eq_true rfl)
    · refine q_aload_n hC 0 dX11_relaxes_17 rfl rfl ?_
      refine q_iload hC 4 dX11_relaxes_18 rfl ?_
      refine q_iload_n hC 1 dX11_relaxes_20 rfl rfl ?_
      refine q_cVI hC hnt (stk := []) (as := [.int x6, .int x1]) sX11_isEdge (ci := 11) (by decide) rfl nX11_isEdge rfl w_932 w_934 w_935 w_830 w_933 (Nat.le_of_ble_eq_true rfl) dX11_relaxes_21 rfl (fun v5 => ?_)
      refine q_if_eq hC 88 dX11_relaxes_24 rfl ?_ ?_
      · refine q_iincA hC (loc' := [(6, .int (x6 + 1)), (0, .ref x0), (1, .int x1), (2, .long x2), (4, .long x4)]) 4 1 dX11_relaxes_88 rfl rfl (Nat.le_of_ble_eq_true rfl) rfl ?_
        refine q_goto hC 8 dX11_relaxes_91 rfl ?_
        exact c_sub [1, 2, 3, 4, 0] rfl (hJ 1 [.ref x0, .int x1, .long x2, .long x4, .int (x6 + 1)])
      · refine q_aload_n hC 0 dX11_relaxes_27 rfl rfl ?_
        refine q_iload hC 4 dX11_relaxes_28 rfl ?_
        refine q_cVI hC hnt (stk := []) (as := [.int x6]) sX11_hasHeight (ci := 11) (by decide) rfl nX11_hasHeight rfl w_1012 w_1014 w_1015 w_830 w_1013 (Nat.le_of_ble_eq_true rfl) dX11_relaxes_30 rfl (fun v6 => ?_)
        refine q_if_ne hC 39 dX11_relaxes_33 rfl ?_ ?_
        · refine q_lload_n hC 2 dX11_relaxes_39 rfl rfl ?_
          refine q_aload_n hC 0 dX11_relaxes_40 rfl rfl ?_
          refine q_getR hC (by decide) (by decide) rfl w_818 dX11_relaxes_41 (fun r7 => ?_)
          refine q_iload hC 4 dX11_relaxes_44 rfl ?_
          refine q_iload_n hC 1 dX11_relaxes_46 rfl rfl ?_
          refine q_cSI hC hnt (stk := [.ref r7, .long x2]) (as := [.int x6, .int x1]) sX11_pairOf nX11_pairOf rfl w_886 w_888 w_830 w_887 (Nat.le_of_ble_eq_true rfl) dX11_relaxes_47 rfl (fun v8 => ?_)
          refine q_iald hC dX11_relaxes_50 (fun v9 => ?_)
          refine q_i2l hC dX11_relaxes_51 ?_
          refine q_aload_n hC 0 dX11_relaxes_52 rfl rfl ?_
          refine q_iload hC 4 dX11_relaxes_53 rfl ?_
          refine q_iconst hC dX11_relaxes_55 rfl ?_
          refine q_cVI hC hnt (stk := [.long (v9.toInt64), .long x2]) (as := [.int x6, .int 4]) sX11_of (ci := 11) (by decide) rfl nX11_of rfl w_862 w_864 w_865 w_830 w_863 (Nat.le_of_ble_eq_true rfl) dX11_relaxes_56 rfl (fun v10 => ?_)
          refine q_aload_n hC 0 dX11_relaxes_59 rfl rfl ?_
          refine q_iload hC 4 dX11_relaxes_60 rfl ?_
          refine q_iload_n hC 1 dX11_relaxes_62 rfl rfl ?_
          refine q_cVI hC hnt (stk := [.int v10, .long (v9.toInt64), .long x2]) (as := [.int x6, .int x1]) sX11_riseFrom (ci := 11) (by decide) rfl nX11_riseFrom rfl w_959 w_961 w_962 w_830 w_960 (Nat.le_of_ble_eq_true rfl) dX11_relaxes_63 rfl (fun v11 => ?_)
          refine q_iadd hC dX11_relaxes_66 ?_
          refine q_i2l hC dX11_relaxes_67 ?_
          refine q_lmul hC dX11_relaxes_68 ?_
          refine q_ladd hC dX11_relaxes_69 ?_
          refine q_lstore_n hC (fun y2_12 => [(2, .long y2_12), (0, .ref x0), (1, .int x1), (4, .long x4), (6, .int x6)]) dX11_relaxes_70 rfl (Nat.le_of_ble_eq_true rfl) (fun _ => rfl) (fun y2_12 => ?_)
          refine q_lload hC 3 dX11_relaxes_71 rfl ?_
          refine q_aload_n hC 1 dX11_relaxes_73 rfl rfl ?_
          refine q_getR hC (by decide) (by decide) rfl w_818 dX11_relaxes_74 (fun r13 => ?_)
          refine q_iload hC 4 dX11_relaxes_77 rfl ?_
          refine q_iload_n hC 2 dX11_relaxes_79 rfl rfl ?_
          refine q_cSI hC hnt (stk := [.ref r13, .long x4]) (as := [.int x6, .int x1]) sX11_pairOf nX11_pairOf rfl w_886 w_888 w_830 w_887 (Nat.le_of_ble_eq_true rfl) dX11_relaxes_80 rfl (fun v14 => ?_)
          refine q_iald hC dX11_relaxes_83 (fun v15 => ?_)
          refine q_i2l hC dX11_relaxes_84 ?_
          refine q_ladd hC dX11_relaxes_85 ?_
          refine q_lstore hC (fun y4_16 => [(4, .long y4_16), (2, .long y2_12), (0, .ref x0), (1, .int x1), (6, .int x6)]) dX11_relaxes_86 (Nat.le_of_ble_eq_true rfl) (fun _ => rfl) (fun y4_16 => ?_)
          refine q_iincA hC (loc' := [(6, .int (x6 + 1)), (4, .long y4_16), (2, .long y2_12), (0, .ref x0), (1, .int x1)]) 4 1 dX11_relaxes_88 rfl rfl (Nat.le_of_ble_eq_true rfl) rfl ?_
          refine q_goto hC 8 dX11_relaxes_91 rfl ?_
          exact c_sub [3, 4, 2, 1, 0] rfl (hJ 1 [.ref x0, .int x1, .long y2_12, .long y4_16, .int (x6 + 1)])
        · refine q_goto hC 88 dX11_relaxes_36 rfl ?_
          refine q_iincA hC (loc' := [(6, .int (x6 + 1)), (0, .ref x0), (1, .int x1), (2, .long x2), (4, .long x4)]) 4 1 dX11_relaxes_88 rfl rfl (Nat.le_of_ble_eq_true rfl) rfl ?_
          refine q_goto hC 8 dX11_relaxes_91 rfl ?_
          exact c_sub [1, 2, 3, 4, 0] rfl (hJ 1 [.ref x0, .int x1, .long x2, .long x4, .int (x6 + 1)])
  · exact c_no
theorem sX11_relaxes : Snd yX11_relaxes (.code yX11_relaxes cX11_relaxes 7 (some .boolean)) rmX11_relaxes SX11_relaxes := by
  refine Snd.of lX11_relaxes (by decide +kernel) (fun _ => rfl) ?_
  intro Γ hC hnt hnm J hJ L a
  match L with
  | 0 => exact pX11_relaxes_0 hC hnt J hJ a
  | 1 => exact pX11_relaxes_1 hC hnt J hJ a
  | L + 2 => exact c_no
/-! SpiritWallModel.rounds(I)I -/
theorem dX11_rounds_0 : decode cX11_rounds 0 = .ok (.aload_n 0, 1) := by decide +kernel
theorem dX11_rounds_1 : decode cX11_rounds 1 = .ok (.invokevirtual 244, 3) := by decide +kernel
theorem dX11_rounds_4 : decode cX11_rounds 4 = .ok (.iconst 0, 1) := by decide +kernel
theorem dX11_rounds_5 : decode cX11_rounds 5 = .ok (.istore_n 2, 1) := by decide +kernel
theorem dX11_rounds_6 : decode cX11_rounds 6 = .ok (.iload_n 2, 1) := by decide +kernel
theorem dX11_rounds_7 : decode cX11_rounds 7 = .ok (.iload_n 1, 1) := by decide +kernel
theorem dX11_rounds_8 : decode cX11_rounds 8 = .ok (.if_icmp .ge 64, 3) := by decide +kernel
theorem dX11_rounds_11 : decode cX11_rounds 11 = .ok (.iconst 0, 1) := by decide +kernel
theorem dX11_rounds_12 : decode cX11_rounds 12 = .ok (.istore_n 3, 1) := by decide +kernel
theorem dX11_rounds_13 : decode cX11_rounds 13 = .ok (.iconst 0, 1) := by decide +kernel
theorem dX11_rounds_14 : decode cX11_rounds 14 = .ok (.istore 4, 2) := by decide +kernel
theorem dX11_rounds_16 : decode cX11_rounds 16 = .ok (.iload 4, 2) := by decide +kernel
theorem dX11_rounds_18 : decode cX11_rounds 18 = .ok (.aload_n 0, 1) := by decide +kernel
theorem dX11_rounds_19 : decode cX11_rounds 19 = .ok (.invokevirtual 85, 3) := by decide +kernel
theorem dX11_rounds_22 : decode cX11_rounds 22 = .ok (.if_icmp .ge 38, 3) := by decide +kernel
theorem dX11_rounds_25 : decode cX11_rounds 25 = .ok (.aload_n 0, 1) := by decide +kernel
theorem dX11_rounds_26 : decode cX11_rounds 26 = .ok (.iload 4, 2) := by decide +kernel
theorem dX11_rounds_28 : decode cX11_rounds 28 = .ok (.invokevirtual 241, 3) := by decide +kernel
theorem dX11_rounds_31 : decode cX11_rounds 31 = .ok (.ifCond .eq 23, 3) := by decide +kernel
theorem dX11_rounds_34 : decode cX11_rounds 34 = .ok (.aload_n 0, 1) := by decide +kernel
theorem dX11_rounds_35 : decode cX11_rounds 35 = .ok (.iload 4, 2) := by decide +kernel
theorem dX11_rounds_37 : decode cX11_rounds 37 = .ok (.invokevirtual 254, 3) := by decide +kernel
theorem dX11_rounds_40 : decode cX11_rounds 40 = .ok (.ifCond .ne 14, 3) := by decide +kernel
theorem dX11_rounds_43 : decode cX11_rounds 43 = .ok (.aload_n 0, 1) := by decide +kernel
theorem dX11_rounds_44 : decode cX11_rounds 44 = .ok (.iload 4, 2) := by decide +kernel
theorem dX11_rounds_46 : decode cX11_rounds 46 = .ok (.invokevirtual 257, 3) := by decide +kernel
theorem dX11_rounds_49 : decode cX11_rounds 49 = .ok (.ifCond .eq 5, 3) := by decide +kernel
theorem dX11_rounds_52 : decode cX11_rounds 52 = .ok (.iconst 1, 1) := by decide +kernel
theorem dX11_rounds_53 : decode cX11_rounds 53 = .ok (.istore_n 3, 1) := by decide +kernel
theorem dX11_rounds_54 : decode cX11_rounds 54 = .ok (.iinc 4 1, 3) := by decide +kernel
theorem dX11_rounds_57 : decode cX11_rounds 57 = .ok (.goto (-41), 3) := by decide +kernel
theorem dX11_rounds_60 : decode cX11_rounds 60 = .ok (.iload_n 3, 1) := by decide +kernel
theorem dX11_rounds_61 : decode cX11_rounds 61 = .ok (.ifCond .ne 5, 3) := by decide +kernel
theorem dX11_rounds_64 : decode cX11_rounds 64 = .ok (.iload_n 2, 1) := by decide +kernel
theorem dX11_rounds_65 : decode cX11_rounds 65 = .ok (.ireturn, 1) := by decide +kernel
theorem dX11_rounds_66 : decode cX11_rounds 66 = .ok (.iinc 2 1, 3) := by decide +kernel
theorem dX11_rounds_69 : decode cX11_rounds 69 = .ok (.goto (-63), 3) := by decide +kernel
theorem dX11_rounds_72 : decode cX11_rounds 72 = .ok (.iload_n 1, 1) := by decide +kernel
theorem dX11_rounds_73 : decode cX11_rounds 73 = .ok (.ireturn, 1) := by decide +kernel
def rmX11_rounds : Room := rmk 15 0 0 357
theorem nX11_rounds : nameOk yX11_rounds 1 = true := by decide +kernel
def bX11_rounds_0 (J : JT) : List Value → Sem
  | [.ref x0, .int x1] =>
    ob 11 x0 (cV SX11_reckons [.ref x0] <|
    J 1 [.ref x0, .int x1, .int 0])
  | _ => no
def bX11_rounds_1 (J : JT) : List Value → Sem
  | [.ref x0, .int x1, .int x2] =>
    br (x1 ≤ x2)
    (rI x1)
    (J 2 [.ref x0, .int x1, .int x2, .int 0, .int 0])
  | _ => no
def bX11_rounds_2 (J : JT) : List Value → Sem
  | [.ref x0, .int x1, .int x2, .int x3, .int x4] =>
    ob 11 x0 (cI SX11_marks [.ref x0] fun v1 =>
    br (v1 ≤ x4)
    (br (x3 = 0)
    (rI x2)
    (J 1 [.ref x0, .int x1, .int (x2 + 1)]))
    (ob 11 x0 (cI SX11_hasHeight [.ref x0, .int x4] fun v2 =>
    br (v2 = 0)
    (J 2 [.ref x0, .int x1, .int x2, .int x3, .int (x4 + 1)])
    (ob 11 x0 (cI SX11_isBench [.ref x0, .int x4] fun v3 =>
    br (v3 = 0)
    (ob 11 x0 (cI SX11_relaxes [.ref x0, .int x4] fun v4 =>
    br (v4 = 0)
    (J 2 [.ref x0, .int x1, .int x2, .int x3, .int (x4 + 1)])
    (J 2 [.ref x0, .int x1, .int x2, .int 1, .int (x4 + 1)])))
    (J 2 [.ref x0, .int x1, .int x2, .int x3, .int (x4 + 1)]))))))
  | _ => no
def bX11_rounds (J : JT) : JT := fun L a => match L with
  | 0 => bX11_rounds_0 J a
  | 1 => bX11_rounds_1 J a
  | 2 => bX11_rounds_2 J a
  | _ => no
def SX11_rounds : ST := mk 5 bX11_rounds
def lX11_rounds (L : Nat) (a : List Value) : Nat × Nat × Nat × List (Nat × Value) × List Value := match L with
  | 0 => (0, 0, 0, lv_args 0 a, [])
  | 1 => (0, 0, 6, List.zip [0, 1, 2] a, [])
  | 2 => (0, 0, 16, List.zip [0, 1, 2, 3, 4] a, [])
  | _ => (0, 0, 0, [], [])
theorem pX11_rounds_0 {Γ : CT} (hC : Ctx Γ "SpiritWallModel" cX11_rounds 5 (some .int) rmX11_rounds) (hnt : NT Γ) (J : JT) (hJ : ∀ L a, Cor Γ 5 (lX11_rounds L a).1 (lX11_rounds L a).2.1 (lX11_rounds L a).2.2.1 (lX11_rounds L a).2.2.2.1 (lX11_rounds L a).2.2.2.2 (J L a)) (a : List Value) : Cor Γ 5 0 0 0 (lv_args 0 a) [] (bX11_rounds_0 J a) := by
  unfold bX11_rounds_0
  split
  · rename_i x0 x1
    refine c_sub [0, 1] rfl (loc' := [(0, .ref x0), (1, .int x1)]) ?_
    refine q_aload_n hC 0 dX11_rounds_0 rfl rfl ?_
    refine q_cVV hC hnt (stk := []) (as := []) sX11_reckons (ci := 11) (by decide) rfl nX11_reckons rfl w_1016 w_1018 w_1019 w_830 w_1017 (Nat.le_of_ble_eq_true rfl) dX11_rounds_1 rfl ?_
    refine q_iconst hC dX11_rounds_4 rfl ?_
    refine q_istore_nA hC (loc' := [(2, .int 0), (0, .ref x0), (1, .int x1)]) dX11_rounds_5 rfl (Nat.le_of_ble_eq_true rfl) rfl ?_
    exact c_sub [1, 2, 0] rfl (hJ 1 [.ref x0, .int x1, .int 0])
  · exact c_no
theorem pX11_rounds_1 {Γ : CT} (hC : Ctx Γ "SpiritWallModel" cX11_rounds 5 (some .int) rmX11_rounds) (hnt : NT Γ) (J : JT) (hJ : ∀ L a, Cor Γ 5 (lX11_rounds L a).1 (lX11_rounds L a).2.1 (lX11_rounds L a).2.2.1 (lX11_rounds L a).2.2.2.1 (lX11_rounds L a).2.2.2.2 (J L a)) (a : List Value) : Cor Γ 5 0 0 6 (List.zip [0, 1, 2] a) [] (bX11_rounds_1 J a) := by
  unfold bX11_rounds_1
  split
  · rename_i x0 x1 x2
    refine c_sub [0, 1, 2] rfl (loc' := [(0, .ref x0), (1, .int x1), (2, .int x2)]) ?_
    refine q_iload_n hC 2 dX11_rounds_6 rfl rfl ?_
    refine q_iload_n hC 1 dX11_rounds_7 rfl rfl ?_
    refine q_ic_ge hC 72 dX11_rounds_8 rfl ?_ ?_
    · refine q_iload_n hC 1 dX11_rounds_72 rfl rfl ?_
      exact q_iret hC dX11_rounds_73 (Nat.le_of_ble_eq_true rfl) (Nat.le_of_ble_eq_true rfl)
    · refine q_iconst hC dX11_rounds_11 rfl ?_
      refine q_istore_nA hC (loc' := [(3, .int 0), (0, .ref x0), (1, .int x1), (2, .int x2)]) dX11_rounds_12 rfl (Nat.le_of_ble_eq_true rfl) rfl ?_
      refine q_iconst hC dX11_rounds_13 rfl ?_
      refine q_istoreA hC (loc' := [(4, .int 0), (3, .int 0), (0, .ref x0), (1, .int x1), (2, .int x2)]) dX11_rounds_14 (Nat.le_of_ble_eq_true rfl) rfl ?_
      exact c_sub [2, 3, 4, 1, 0] rfl (hJ 2 [.ref x0, .int x1, .int x2, .int 0, .int 0])
  · exact c_no
theorem pX11_rounds_2 {Γ : CT} (hC : Ctx Γ "SpiritWallModel" cX11_rounds 5 (some .int) rmX11_rounds) (hnt : NT Γ) (J : JT) (hJ : ∀ L a, Cor Γ 5 (lX11_rounds L a).1 (lX11_rounds L a).2.1 (lX11_rounds L a).2.2.1 (lX11_rounds L a).2.2.2.1 (lX11_rounds L a).2.2.2.2 (J L a)) (a : List Value) : Cor Γ 5 0 0 16 (List.zip [0, 1, 2, 3, 4] a) [] (bX11_rounds_2 J a) := by
  unfold bX11_rounds_2
  split
  · rename_i x0 x1 x2 x3 x4
    refine c_sub [0, 1, 2, 3, 4] rfl (loc' := [(0, .ref x0), (1, .int x1), (2, .int x2), (3, .int x3), (4, .int x4)]) ?_
    refine q_iload hC 4 dX11_rounds_16 rfl ?_
    refine q_aload_n hC 0 dX11_rounds_18 rfl rfl ?_
    refine q_cVI hC hnt (stk := [.int x4]) (as := []) sX11_marks (ci := 11) (by decide) rfl nX11_marks rfl w_843 w_845 w_846 w_830 w_844 (Nat.le_of_ble_eq_true rfl) dX11_rounds_19 rfl (fun v1 => ?_)
    refine q_ic_ge hC 60 dX11_rounds_22 rfl ?_ ?_
    · refine q_iload_n hC 3 dX11_rounds_60 rfl rfl ?_
      refine q_if_ne hC 66 dX11_rounds_61 rfl ?_ ?_
      · refine q_iincA hC (loc' := [(2, .int (x2 + 1)), (0, .ref x0), (1, .int x1), (3, .int x3), (4, .int x4)]) 2 1 dX11_rounds_66 rfl rfl (Nat.le_of_ble_eq_true rfl) rfl ?_
        refine q_goto hC 6 dX11_rounds_69 rfl ?_
        exact c_sub [1, 2, 0] rfl (hJ 1 [.ref x0, .int x1, .int (x2 + 1)])
      · refine q_iload_n hC 2 dX11_rounds_64 rfl rfl ?_
        exact q_iret hC dX11_rounds_65 (Nat.le_of_ble_eq_true rfl) (Nat.le_of_ble_eq_true rfl)
    · refine q_aload_n hC 0 dX11_rounds_25 rfl rfl ?_
      refine q_iload hC 4 dX11_rounds_26 rfl ?_
      refine q_cVI hC hnt (stk := []) (as := [.int x4]) sX11_hasHeight (ci := 11) (by decide) rfl nX11_hasHeight rfl w_1012 w_1014 w_1015 w_830 w_1013 (Nat.le_of_ble_eq_true rfl) dX11_rounds_28 rfl (fun v2 => ?_)
      refine q_if_eq hC 54 dX11_rounds_31 rfl ?_ ?_
      · refine q_iincA hC (loc' := [(4, .int (x4 + 1)), (0, .ref x0), (1, .int x1), (2, .int x2), (3, .int x3)]) 4 1 dX11_rounds_54 rfl rfl (Nat.le_of_ble_eq_true rfl) rfl ?_
        refine q_goto hC 16 dX11_rounds_57 rfl ?_
        exact c_sub [1, 2, 3, 4, 0] rfl (hJ 2 [.ref x0, .int x1, .int x2, .int x3, .int (x4 + 1)])
      · refine q_aload_n hC 0 dX11_rounds_34 rfl rfl ?_
        refine q_iload hC 4 dX11_rounds_35 rfl ?_
        refine q_cVI hC hnt (stk := []) (as := [.int x4]) sX11_isBench (ci := 11) (by decide) rfl nX11_isBench rfl w_1028 w_1030 w_1031 w_830 w_1029 (Nat.le_of_ble_eq_true rfl) dX11_rounds_37 rfl (fun v3 => ?_)
        refine q_if_ne hC 54 dX11_rounds_40 rfl ?_ ?_
        · refine q_iincA hC (loc' := [(4, .int (x4 + 1)), (0, .ref x0), (1, .int x1), (2, .int x2), (3, .int x3)]) 4 1 dX11_rounds_54 rfl rfl (Nat.le_of_ble_eq_true rfl) rfl ?_
          refine q_goto hC 16 dX11_rounds_57 rfl ?_
          exact c_sub [1, 2, 3, 4, 0] rfl (hJ 2 [.ref x0, .int x1, .int x2, .int x3, .int (x4 + 1)])
        · refine q_aload_n hC 0 dX11_rounds_43 rfl rfl ?_
          refine q_iload hC 4 dX11_rounds_44 rfl ?_
          refine q_cVI hC hnt (stk := []) (as := [.int x4]) sX11_relaxes (ci := 11) (by decide) rfl nX11_relaxes rfl w_1032 w_1034 w_1035 w_830 w_1033 (Nat.le_of_ble_eq_true rfl) dX11_rounds_46 rfl (fun v4 => ?_)
          refine q_if_eq hC 54 dX11_rounds_49 rfl ?_ ?_
          · refine q_iincA hC (loc' := [(4, .int (x4 + 1)), (0, .ref x0), (1, .int x1), (2, .int x2), (3, .int x3)]) 4 1 dX11_rounds_54 rfl rfl (Nat.le_of_ble_eq_true rfl) rfl ?_
            refine q_goto hC 16 dX11_rounds_57 rfl ?_
            exact c_sub [1, 2, 3, 4, 0] rfl (hJ 2 [.ref x0, .int x1, .int x2, .int x3, .int (x4 + 1)])
          · refine q_iconst hC dX11_rounds_52 rfl ?_
            refine q_istore_nA hC (loc' := [(3, .int 1), (0, .ref x0), (1, .int x1), (2, .int x2), (4, .int x4)]) dX11_rounds_53 rfl (Nat.le_of_ble_eq_true rfl) rfl ?_
            refine q_iincA hC (loc' := [(4, .int (x4 + 1)), (3, .int 1), (0, .ref x0), (1, .int x1), (2, .int x2)]) 4 1 dX11_rounds_54 rfl rfl (Nat.le_of_ble_eq_true rfl) rfl ?_
            refine q_goto hC 16 dX11_rounds_57 rfl ?_
            exact c_sub [2, 3, 4, 1, 0] rfl (hJ 2 [.ref x0, .int x1, .int x2, .int 1, .int (x4 + 1)])
  · exact c_no
theorem sX11_rounds : Snd yX11_rounds (.code yX11_rounds cX11_rounds 5 (some .int)) rmX11_rounds SX11_rounds := by
  refine Snd.of lX11_rounds (by decide +kernel) (fun _ => rfl) ?_
  intro Γ hC hnt hnm J hJ L a
  match L with
  | 0 => exact pX11_rounds_0 hC hnt J hJ a
  | 1 => exact pX11_rounds_1 hC hnt J hJ a
  | 2 => exact pX11_rounds_2 hC hnt J hJ a
  | L + 3 => exact c_no
/-! SpiritWallModel.misfitNow()J -/
theorem dX11_misfitNow_0 : decode cX11_misfitNow 0 = .ok (.aload_n 0, 1) := by decide +kernel
theorem dX11_misfitNow_1 : decode cX11_misfitNow 1 = .ok (.invokevirtual 244, 3) := by decide +kernel
theorem dX11_misfitNow_4 : decode cX11_misfitNow 4 = .ok (.lconst 0, 1) := by decide +kernel
theorem dX11_misfitNow_5 : decode cX11_misfitNow 5 = .ok (.lstore_n 1, 1) := by decide +kernel
theorem dX11_misfitNow_6 : decode cX11_misfitNow 6 = .ok (.iconst 0, 1) := by decide +kernel
theorem dX11_misfitNow_7 : decode cX11_misfitNow 7 = .ok (.istore_n 3, 1) := by decide +kernel
theorem dX11_misfitNow_8 : decode cX11_misfitNow 8 = .ok (.iload_n 3, 1) := by decide +kernel
theorem dX11_misfitNow_9 : decode cX11_misfitNow 9 = .ok (.aload_n 0, 1) := by decide +kernel
theorem dX11_misfitNow_10 : decode cX11_misfitNow 10 = .ok (.invokevirtual 85, 3) := by decide +kernel
theorem dX11_misfitNow_13 : decode cX11_misfitNow 13 = .ok (.if_icmp .ge 98, 3) := by decide +kernel
theorem dX11_misfitNow_16 : decode cX11_misfitNow 16 = .ok (.iload_n 3, 1) := by decide +kernel
theorem dX11_misfitNow_17 : decode cX11_misfitNow 17 = .ok (.iconst 1, 1) := by decide +kernel
theorem dX11_misfitNow_18 : decode cX11_misfitNow 18 = .ok (.iadd, 1) := by decide +kernel
theorem dX11_misfitNow_19 : decode cX11_misfitNow 19 = .ok (.istore 4, 2) := by decide +kernel
theorem dX11_misfitNow_21 : decode cX11_misfitNow 21 = .ok (.iload 4, 2) := by decide +kernel
theorem dX11_misfitNow_23 : decode cX11_misfitNow 23 = .ok (.aload_n 0, 1) := by decide +kernel
theorem dX11_misfitNow_24 : decode cX11_misfitNow 24 = .ok (.invokevirtual 85, 3) := by decide +kernel
theorem dX11_misfitNow_27 : decode cX11_misfitNow 27 = .ok (.if_icmp .ge 78, 3) := by decide +kernel
theorem dX11_misfitNow_30 : decode cX11_misfitNow 30 = .ok (.aload_n 0, 1) := by decide +kernel
theorem dX11_misfitNow_31 : decode cX11_misfitNow 31 = .ok (.iload_n 3, 1) := by decide +kernel
theorem dX11_misfitNow_32 : decode cX11_misfitNow 32 = .ok (.iload 4, 2) := by decide +kernel
theorem dX11_misfitNow_34 : decode cX11_misfitNow 34 = .ok (.invokevirtual 173, 3) := by decide +kernel
theorem dX11_misfitNow_37 : decode cX11_misfitNow 37 = .ok (.ifCond .eq 62, 3) := by decide +kernel
theorem dX11_misfitNow_40 : decode cX11_misfitNow 40 = .ok (.aload_n 0, 1) := by decide +kernel
theorem dX11_misfitNow_41 : decode cX11_misfitNow 41 = .ok (.iload_n 3, 1) := by decide +kernel
theorem dX11_misfitNow_42 : decode cX11_misfitNow 42 = .ok (.invokevirtual 241, 3) := by decide +kernel
theorem dX11_misfitNow_45 : decode cX11_misfitNow 45 = .ok (.ifCond .eq 54, 3) := by decide +kernel
theorem dX11_misfitNow_48 : decode cX11_misfitNow 48 = .ok (.aload_n 0, 1) := by decide +kernel
theorem dX11_misfitNow_49 : decode cX11_misfitNow 49 = .ok (.iload 4, 2) := by decide +kernel
theorem dX11_misfitNow_51 : decode cX11_misfitNow 51 = .ok (.invokevirtual 241, 3) := by decide +kernel
theorem dX11_misfitNow_54 : decode cX11_misfitNow 54 = .ok (.ifCond .ne 6, 3) := by decide +kernel
theorem dX11_misfitNow_57 : decode cX11_misfitNow 57 = .ok (.goto 42, 3) := by decide +kernel
theorem dX11_misfitNow_60 : decode cX11_misfitNow 60 = .ok (.aload_n 0, 1) := by decide +kernel
theorem dX11_misfitNow_61 : decode cX11_misfitNow 61 = .ok (.getfield 34, 3) := by decide +kernel
theorem dX11_misfitNow_64 : decode cX11_misfitNow 64 = .ok (.iload_n 3, 1) := by decide +kernel
theorem dX11_misfitNow_65 : decode cX11_misfitNow 65 = .ok (.iload 4, 2) := by decide +kernel
theorem dX11_misfitNow_67 : decode cX11_misfitNow 67 = .ok (.invokestatic 133, 3) := by decide +kernel
theorem dX11_misfitNow_70 : decode cX11_misfitNow 70 = .ok (.iaload, 1) := by decide +kernel
theorem dX11_misfitNow_71 : decode cX11_misfitNow 71 = .ok (.i2l, 1) := by decide +kernel
theorem dX11_misfitNow_72 : decode cX11_misfitNow 72 = .ok (.aload_n 0, 1) := by decide +kernel
theorem dX11_misfitNow_73 : decode cX11_misfitNow 73 = .ok (.iload 4, 2) := by decide +kernel
theorem dX11_misfitNow_75 : decode cX11_misfitNow 75 = .ok (.iconst 4, 1) := by decide +kernel
theorem dX11_misfitNow_76 : decode cX11_misfitNow 76 = .ok (.invokevirtual 104, 3) := by decide +kernel
theorem dX11_misfitNow_79 : decode cX11_misfitNow 79 = .ok (.i2l, 1) := by decide +kernel
theorem dX11_misfitNow_80 : decode cX11_misfitNow 80 = .ok (.aload_n 0, 1) := by decide +kernel
theorem dX11_misfitNow_81 : decode cX11_misfitNow 81 = .ok (.iload_n 3, 1) := by decide +kernel
theorem dX11_misfitNow_82 : decode cX11_misfitNow 82 = .ok (.iconst 4, 1) := by decide +kernel
theorem dX11_misfitNow_83 : decode cX11_misfitNow 83 = .ok (.invokevirtual 104, 3) := by decide +kernel
theorem dX11_misfitNow_86 : decode cX11_misfitNow 86 = .ok (.i2l, 1) := by decide +kernel
theorem dX11_misfitNow_87 : decode cX11_misfitNow 87 = .ok (.lsub, 1) := by decide +kernel
theorem dX11_misfitNow_88 : decode cX11_misfitNow 88 = .ok (.lsub, 1) := by decide +kernel
theorem dX11_misfitNow_89 : decode cX11_misfitNow 89 = .ok (.lstore 5, 2) := by decide +kernel
theorem dX11_misfitNow_91 : decode cX11_misfitNow 91 = .ok (.lload_n 1, 1) := by decide +kernel
theorem dX11_misfitNow_92 : decode cX11_misfitNow 92 = .ok (.lload 5, 2) := by decide +kernel
theorem dX11_misfitNow_94 : decode cX11_misfitNow 94 = .ok (.lload 5, 2) := by decide +kernel
theorem dX11_misfitNow_96 : decode cX11_misfitNow 96 = .ok (.lmul, 1) := by decide +kernel
theorem dX11_misfitNow_97 : decode cX11_misfitNow 97 = .ok (.ladd, 1) := by decide +kernel
theorem dX11_misfitNow_98 : decode cX11_misfitNow 98 = .ok (.lstore_n 1, 1) := by decide +kernel
theorem dX11_misfitNow_99 : decode cX11_misfitNow 99 = .ok (.iinc 4 1, 3) := by decide +kernel
theorem dX11_misfitNow_102 : decode cX11_misfitNow 102 = .ok (.goto (-81), 3) := by decide +kernel
theorem dX11_misfitNow_105 : decode cX11_misfitNow 105 = .ok (.iinc 3 1, 3) := by decide +kernel
theorem dX11_misfitNow_108 : decode cX11_misfitNow 108 = .ok (.goto (-100), 3) := by decide +kernel
theorem dX11_misfitNow_111 : decode cX11_misfitNow 111 = .ok (.lload_n 1, 1) := by decide +kernel
theorem dX11_misfitNow_112 : decode cX11_misfitNow 112 = .ok (.lreturn, 1) := by decide +kernel
def rmX11_misfitNow : Room := rmk 15 0 0 357
theorem nX11_misfitNow : nameOk yX11_misfitNow 0 = true := by decide +kernel
def bX11_misfitNow_0 (J : JT) : List Value → Sem
  | [.ref x0] =>
    ob 11 x0 (cV SX11_reckons [.ref x0] <|
    J 1 [.ref x0, .long 0, .int 0])
  | _ => no
def bX11_misfitNow_1 (J : JT) : List Value → Sem
  | [.ref x0, .long x1, .int x3] =>
    ob 11 x0 (cI SX11_marks [.ref x0] fun v1 =>
    br (v1 ≤ x3)
    (rJ x1)
    (lI (x3 + 1) fun y4_2 =>
    J 2 [.ref x0, .long x1, .int x3, .int y4_2]))
  | _ => no
def bX11_misfitNow_2 (J : JT) : List Value → Sem
  | [.ref x0, .long x1, .int x3, .int x4] =>
    ob 11 x0 (cI SX11_marks [.ref x0] fun v1 =>
    br (v1 ≤ x4)
    (J 1 [.ref x0, .long x1, .int (x3 + 1)])
    (ob 11 x0 (cI SX11_isEdge [.ref x0, .int x3, .int x4] fun v2 =>
    br (v2 = 0)
    (J 2 [.ref x0, .long x1, .int x3, .int (x4 + 1)])
    (ob 11 x0 (cI SX11_hasHeight [.ref x0, .int x3] fun v3 =>
    br (v3 = 0)
    (J 2 [.ref x0, .long x1, .int x3, .int (x4 + 1)])
    (ob 11 x0 (cI SX11_hasHeight [.ref x0, .int x4] fun v4 =>
    br (v4 = 0)
    (J 2 [.ref x0, .long x1, .int x3, .int (x4 + 1)])
    (gR 11 12 x0 fun r5 =>
    cI SX11_pairOf [.int x3, .int x4] fun v6 =>
    aI r5 v6 fun v7 =>
    ob 11 x0 (cI SX11_of [.ref x0, .int x4, .int 4] fun v8 =>
    ob 11 x0 (cI SX11_of [.ref x0, .int x3, .int 4] fun v9 =>
    lJ ((v7.toInt64) - ((v8.toInt64) - (v9.toInt64))) fun y5_10 =>
    lJ (x1 + (y5_10 * y5_10)) fun y1_11 =>
    J 2 [.ref x0, .long y1_11, .int x3, .int (x4 + 1)]))))))))))
  | _ => no
def bX11_misfitNow (J : JT) : JT := fun L a => match L with
  | 0 => bX11_misfitNow_0 J a
  | 1 => bX11_misfitNow_1 J a
  | 2 => bX11_misfitNow_2 J a
  | _ => no
def SX11_misfitNow : ST := mk 7 bX11_misfitNow
def lX11_misfitNow (L : Nat) (a : List Value) : Nat × Nat × Nat × List (Nat × Value) × List Value := match L with
  | 0 => (0, 0, 0, lv_args 0 a, [])
  | 1 => (0, 0, 8, List.zip [0, 1, 3] a, [])
  | 2 => (0, 0, 21, List.zip [0, 1, 3, 4] a, [])
  | _ => (0, 0, 0, [], [])
theorem pX11_misfitNow_0 {Γ : CT} (hC : Ctx Γ "SpiritWallModel" cX11_misfitNow 7 (some .long) rmX11_misfitNow) (hnt : NT Γ) (J : JT) (hJ : ∀ L a, Cor Γ 7 (lX11_misfitNow L a).1 (lX11_misfitNow L a).2.1 (lX11_misfitNow L a).2.2.1 (lX11_misfitNow L a).2.2.2.1 (lX11_misfitNow L a).2.2.2.2 (J L a)) (a : List Value) : Cor Γ 7 0 0 0 (lv_args 0 a) [] (bX11_misfitNow_0 J a) := by
  unfold bX11_misfitNow_0
  split
  · rename_i x0
    refine c_sub [0] rfl (loc' := [(0, .ref x0)]) ?_
    refine q_aload_n hC 0 dX11_misfitNow_0 rfl rfl ?_
    refine q_cVV hC hnt (stk := []) (as := []) sX11_reckons (ci := 11) (by decide) rfl nX11_reckons rfl w_1016 w_1018 w_1019 w_830 w_1017 (Nat.le_of_ble_eq_true rfl) dX11_misfitNow_1 rfl ?_
    refine q_lconst hC (v := 0) dX11_misfitNow_4 rfl ?_
    refine q_lstore_nA hC (loc' := [(1, .long 0), (0, .ref x0)]) dX11_misfitNow_5 rfl (Nat.le_of_ble_eq_true rfl) rfl ?_
    refine q_iconst hC dX11_misfitNow_6 rfl ?_
    refine q_istore_nA hC (loc' := [(3, .int 0), (1, .long 0), (0, .ref x0)]) dX11_misfitNow_7 rfl (Nat.le_of_ble_eq_true rfl) rfl ?_
    exact c_sub [2, 1, 0] rfl (hJ 1 [.ref x0, .long 0, .int 0])
  · exact c_no
theorem pX11_misfitNow_1 {Γ : CT} (hC : Ctx Γ "SpiritWallModel" cX11_misfitNow 7 (some .long) rmX11_misfitNow) (hnt : NT Γ) (J : JT) (hJ : ∀ L a, Cor Γ 7 (lX11_misfitNow L a).1 (lX11_misfitNow L a).2.1 (lX11_misfitNow L a).2.2.1 (lX11_misfitNow L a).2.2.2.1 (lX11_misfitNow L a).2.2.2.2 (J L a)) (a : List Value) : Cor Γ 7 0 0 8 (List.zip [0, 1, 3] a) [] (bX11_misfitNow_1 J a) := by
  unfold bX11_misfitNow_1
  split
  · rename_i x0 x1 x3
    refine c_sub [0, 1, 2] rfl (loc' := [(0, .ref x0), (1, .long x1), (3, .int x3)]) ?_
    refine q_iload_n hC 2 dX11_misfitNow_8 rfl rfl ?_
    refine q_aload_n hC 0 dX11_misfitNow_9 rfl rfl ?_
    refine q_cVI hC hnt (stk := [.int x3]) (as := []) sX11_marks (ci := 11) (by decide) rfl nX11_marks rfl w_843 w_845 w_846 w_830 w_844 (Nat.le_of_ble_eq_true rfl) dX11_misfitNow_10 rfl (fun v1 => ?_)
    refine q_ic_ge hC 111 dX11_misfitNow_13 rfl ?_ ?_
    · refine q_lload_n hC 1 dX11_misfitNow_111 rfl rfl ?_
      exact q_lret hC dX11_misfitNow_112 (Nat.le_of_ble_eq_true rfl) (Nat.le_of_ble_eq_true rfl)
    · refine q_iload_n hC 2 dX11_misfitNow_16 rfl rfl ?_
      refine q_iconst hC dX11_misfitNow_17 rfl ?_
      refine q_iadd hC dX11_misfitNow_18 ?_
      refine q_istore hC (fun y4_2 => [(4, .int y4_2), (0, .ref x0), (1, .long x1), (3, .int x3)]) dX11_misfitNow_19 (Nat.le_of_ble_eq_true rfl) (fun _ => rfl) (fun y4_2 => ?_)
      exact c_sub [1, 2, 3, 0] rfl (hJ 2 [.ref x0, .long x1, .int x3, .int y4_2])
  · exact c_no
theorem pX11_misfitNow_2 {Γ : CT} (hC : Ctx Γ "SpiritWallModel" cX11_misfitNow 7 (some .long) rmX11_misfitNow) (hnt : NT Γ) (J : JT) (hJ : ∀ L a, Cor Γ 7 (lX11_misfitNow L a).1 (lX11_misfitNow L a).2.1 (lX11_misfitNow L a).2.2.1 (lX11_misfitNow L a).2.2.2.1 (lX11_misfitNow L a).2.2.2.2 (J L a)) (a : List Value) : Cor Γ 7 0 0 21 (List.zip [0, 1, 3, 4] a) [] (bX11_misfitNow_2 J a) := by
  unfold bX11_misfitNow_2
  split
  · rename_i x0 x1 x3 x4
    refine c_sub [0, 1, 2, 3] rfl (loc' := [(0, .ref x0), (1, .long x1), (3, .int x3), (4, .int x4)]) ?_
    refine q_iload hC 3 dX11_misfitNow_21 rfl ?_
    refine q_aload_n hC 0 dX11_misfitNow_23 rfl rfl ?_
    refine q_cVI hC hnt (stk := [.int x4]) (as := []) sX11_marks (ci := 11) (by decide) rfl nX11_marks rfl w_843 w_845 w_846 w_830 w_844 (Nat.le_of_ble_eq_true rfl) dX11_misfitNow_24 rfl (fun v1 => ?_)
    refine q_ic_ge hC 105 dX11_misfitNow_27 rfl ?_ ?_
    · refine q_iincA hC (loc' := [(3, .int (x3 + 1)), (0, .ref x0), (1, .long x1), (4, .int x4)]) 2 1 dX11_misfitNow_105 rfl rfl (Nat.le_of_ble_eq_true rfl) rfl ?_
      refine q_goto hC 8 dX11_misfitNow_108 rfl ?_
      exact c_sub [1, 2, 0] rfl (hJ 1 [.ref x0, .long x1, .int (x3 + 1)])
    · refine q_aload_n hC 0 dX11_misfitNow_30 rfl rfl ?_
      refine q_iload_n hC 2 dX11_misfitNow_31 rfl rfl ?_
      refine q_iload hC 3 dX11_misfitNow_32 rfl ?_
      refine q_cVI hC hnt (stk := []) (as := [.int x3, .int x4]) sX11_isEdge (ci := 11) (by decide) rfl nX11_isEdge rfl w_932 w_934 w_935 w_830 w_933 (Nat.le_of_ble_eq_true rfl) dX11_misfitNow_34 rfl (fun v2 => ?_)
      refine q_if_eq hC 99 dX11_misfitNow_37 rfl ?_ ?_
      · refine q_iincA hC (loc' := [(4, .int (x4 + 1)), (0, .ref x0), (1, .long x1), (3, .int x3)]) 3 1 dX11_misfitNow_99 rfl rfl (Nat.le_of_ble_eq_true rfl) rfl ?_
        refine q_goto hC 21 dX11_misfitNow_102 rfl ?_
        exact c_sub [1, 2, 3, 0] rfl (hJ 2 [.ref x0, .long x1, .int x3, .int (x4 + 1)])
      · refine q_aload_n hC 0 dX11_misfitNow_40 rfl rfl ?_
        refine q_iload_n hC 2 dX11_misfitNow_41 rfl rfl ?_
        refine q_cVI hC hnt (stk := []) (as := [.int x3]) sX11_hasHeight (ci := 11) (by decide) rfl nX11_hasHeight rfl w_1012 w_1014 w_1015 w_830 w_1013 (Nat.le_of_ble_eq_true rfl) dX11_misfitNow_42 rfl (fun v3 => ?_)
        refine q_if_eq hC 99 dX11_misfitNow_45 rfl ?_ ?_
        · refine q_iincA hC (loc' := [(4, .int (x4 + 1)), (0, .ref x0), (1, .long x1), (3, .int x3)]) 3 1 dX11_misfitNow_99 rfl rfl (Nat.le_of_ble_eq_true rfl) rfl ?_
          refine q_goto hC 21 dX11_misfitNow_102 rfl ?_
          exact c_sub [1, 2, 3, 0] rfl (hJ 2 [.ref x0, .long x1, .int x3, .int (x4 + 1)])
        · refine q_aload_n hC 0 dX11_misfitNow_48 rfl rfl ?_
          refine q_iload hC 3 dX11_misfitNow_49 rfl ?_
          refine q_cVI hC hnt (stk := []) (as := [.int x4]) sX11_hasHeight (ci := 11) (by decide) rfl nX11_hasHeight rfl w_1012 w_1014 w_1015 w_830 w_1013 (Nat.le_of_ble_eq_true rfl) dX11_misfitNow_51 rfl (fun v4 => ?_)
          refine q_if_ne hC 60 dX11_misfitNow_54 rfl ?_ ?_
          · refine q_aload_n hC 0 dX11_misfitNow_60 rfl rfl ?_
            refine q_getR hC (by decide) (by decide) rfl w_817 dX11_misfitNow_61 (fun r5 => ?_)
            refine q_iload_n hC 2 dX11_misfitNow_64 rfl rfl ?_
            refine q_iload hC 3 dX11_misfitNow_65 rfl ?_
            refine q_cSI hC hnt (stk := [.ref r5]) (as := [.int x3, .int x4]) sX11_pairOf nX11_pairOf rfl w_886 w_888 w_830 w_887 (Nat.le_of_ble_eq_true rfl) dX11_misfitNow_67 rfl (fun v6 => ?_)
            refine q_iald hC dX11_misfitNow_70 (fun v7 => ?_)
            refine q_i2l hC dX11_misfitNow_71 ?_
            refine q_aload_n hC 0 dX11_misfitNow_72 rfl rfl ?_
            refine q_iload hC 3 dX11_misfitNow_73 rfl ?_
            refine q_iconst hC dX11_misfitNow_75 rfl ?_
            refine q_cVI hC hnt (stk := [.long (v7.toInt64)]) (as := [.int x4, .int 4]) sX11_of (ci := 11) (by decide) rfl nX11_of rfl w_862 w_864 w_865 w_830 w_863 (Nat.le_of_ble_eq_true rfl) dX11_misfitNow_76 rfl (fun v8 => ?_)
            refine q_i2l hC dX11_misfitNow_79 ?_
            refine q_aload_n hC 0 dX11_misfitNow_80 rfl rfl ?_
            refine q_iload_n hC 2 dX11_misfitNow_81 rfl rfl ?_
            refine q_iconst hC dX11_misfitNow_82 rfl ?_
            refine q_cVI hC hnt (stk := [.long (v8.toInt64), .long (v7.toInt64)]) (as := [.int x3, .int 4]) sX11_of (ci := 11) (by decide) rfl nX11_of rfl w_862 w_864 w_865 w_830 w_863 (Nat.le_of_ble_eq_true rfl) dX11_misfitNow_83 rfl (fun v9 => ?_)
            refine q_i2l hC dX11_misfitNow_86 ?_
            refine q_lsub hC dX11_misfitNow_87 ?_
            refine q_lsub hC dX11_misfitNow_88 ?_
            refine q_lstore hC (fun y5_10 => [(5, .long y5_10), (0, .ref x0), (1, .long x1), (3, .int x3), (4, .int x4)]) dX11_misfitNow_89 (Nat.le_of_ble_eq_true rfl) (fun _ => rfl) (fun y5_10 => ?_)
            refine q_lload_n hC 2 dX11_misfitNow_91 rfl rfl ?_
            refine q_lload hC 0 dX11_misfitNow_92 rfl ?_
            refine q_lload hC 0 dX11_misfitNow_94 rfl ?_
            refine q_lmul hC dX11_misfitNow_96 ?_
            refine q_ladd hC dX11_misfitNow_97 ?_
            refine q_lstore_n hC (fun y1_11 => [(1, .long y1_11), (5, .long y5_10), (0, .ref x0), (3, .int x3), (4, .int x4)]) dX11_misfitNow_98 rfl (Nat.le_of_ble_eq_true rfl) (fun _ => rfl) (fun y1_11 => ?_)
            refine q_iincA hC (loc' := [(4, .int (x4 + 1)), (1, .long y1_11), (5, .long y5_10), (0, .ref x0), (3, .int x3)]) 4 1 dX11_misfitNow_99 rfl rfl (Nat.le_of_ble_eq_true rfl) rfl ?_
            refine q_goto hC 21 dX11_misfitNow_102 rfl ?_
            exact c_sub [3, 1, 4, 0] rfl (hJ 2 [.ref x0, .long y1_11, .int x3, .int (x4 + 1)])
          · refine q_goto hC 99 dX11_misfitNow_57 rfl ?_
            refine q_iincA hC (loc' := [(4, .int (x4 + 1)), (0, .ref x0), (1, .long x1), (3, .int x3)]) 3 1 dX11_misfitNow_99 rfl rfl (Nat.le_of_ble_eq_true rfl) rfl ?_
            refine q_goto hC 21 dX11_misfitNow_102 rfl ?_
            exact c_sub [1, 2, 3, 0] rfl (hJ 2 [.ref x0, .long x1, .int x3, .int (x4 + 1)])
  · exact c_no
theorem sX11_misfitNow : Snd yX11_misfitNow (.code yX11_misfitNow cX11_misfitNow 7 (some .long)) rmX11_misfitNow SX11_misfitNow := by
  refine Snd.of lX11_misfitNow (by decide +kernel) (fun _ => rfl) ?_
  intro Γ hC hnt hnm J hJ L a
  match L with
  | 0 => exact pX11_misfitNow_0 hC hnt J hJ a
  | 1 => exact pX11_misfitNow_1 hC hnt J hJ a
  | 2 => exact pX11_misfitNow_2 hC hnt J hJ a
  | L + 3 => exact c_no
/-! SpiritWallModel.benches()I -/
theorem dX11_benches_0 : decode cX11_benches 0 = .ok (.iconst 0, 1) := by decide +kernel
theorem dX11_benches_1 : decode cX11_benches 1 = .ok (.istore_n 1, 1) := by decide +kernel
theorem dX11_benches_2 : decode cX11_benches 2 = .ok (.iconst 0, 1) := by decide +kernel
theorem dX11_benches_3 : decode cX11_benches 3 = .ok (.istore_n 2, 1) := by decide +kernel
theorem dX11_benches_4 : decode cX11_benches 4 = .ok (.iload_n 2, 1) := by decide +kernel
theorem dX11_benches_5 : decode cX11_benches 5 = .ok (.aload_n 0, 1) := by decide +kernel
theorem dX11_benches_6 : decode cX11_benches 6 = .ok (.invokevirtual 85, 3) := by decide +kernel
theorem dX11_benches_9 : decode cX11_benches 9 = .ok (.if_icmp .ge 18, 3) := by decide +kernel
theorem dX11_benches_12 : decode cX11_benches 12 = .ok (.iload_n 1, 1) := by decide +kernel
theorem dX11_benches_13 : decode cX11_benches 13 = .ok (.aload_n 0, 1) := by decide +kernel
theorem dX11_benches_14 : decode cX11_benches 14 = .ok (.iload_n 2, 1) := by decide +kernel
theorem dX11_benches_15 : decode cX11_benches 15 = .ok (.iconst 2, 1) := by decide +kernel
theorem dX11_benches_16 : decode cX11_benches 16 = .ok (.invokevirtual 104, 3) := by decide +kernel
theorem dX11_benches_19 : decode cX11_benches 19 = .ok (.iadd, 1) := by decide +kernel
theorem dX11_benches_20 : decode cX11_benches 20 = .ok (.istore_n 1, 1) := by decide +kernel
theorem dX11_benches_21 : decode cX11_benches 21 = .ok (.iinc 2 1, 3) := by decide +kernel
theorem dX11_benches_24 : decode cX11_benches 24 = .ok (.goto (-20), 3) := by decide +kernel
theorem dX11_benches_27 : decode cX11_benches 27 = .ok (.iload_n 1, 1) := by decide +kernel
theorem dX11_benches_28 : decode cX11_benches 28 = .ok (.ireturn, 1) := by decide +kernel
def rmX11_benches : Room := rmk 7 0 0 172
theorem nX11_benches : nameOk yX11_benches 0 = true := by decide +kernel
def bX11_benches_0 (J : JT) : List Value → Sem
  | [.ref x0] =>
    J 1 [.ref x0, .int 0, .int 0]
  | _ => no
def bX11_benches_1 (J : JT) : List Value → Sem
  | [.ref x0, .int x1, .int x2] =>
    ob 11 x0 (cI SX11_marks [.ref x0] fun v1 =>
    br (v1 ≤ x2)
    (rI x1)
    (ob 11 x0 (cI SX11_of [.ref x0, .int x2, .int 2] fun v2 =>
    lI (x1 + v2) fun y1_3 =>
    J 1 [.ref x0, .int y1_3, .int (x2 + 1)])))
  | _ => no
def bX11_benches (J : JT) : JT := fun L a => match L with
  | 0 => bX11_benches_0 J a
  | 1 => bX11_benches_1 J a
  | _ => no
def SX11_benches : ST := mk 3 bX11_benches
def lX11_benches (L : Nat) (a : List Value) : Nat × Nat × Nat × List (Nat × Value) × List Value := match L with
  | 0 => (0, 0, 0, lv_args 0 a, [])
  | 1 => (0, 0, 4, List.zip [0, 1, 2] a, [])
  | _ => (0, 0, 0, [], [])
theorem pX11_benches_0 {Γ : CT} (hC : Ctx Γ "SpiritWallModel" cX11_benches 3 (some .int) rmX11_benches) (hnt : NT Γ) (J : JT) (hJ : ∀ L a, Cor Γ 3 (lX11_benches L a).1 (lX11_benches L a).2.1 (lX11_benches L a).2.2.1 (lX11_benches L a).2.2.2.1 (lX11_benches L a).2.2.2.2 (J L a)) (a : List Value) : Cor Γ 3 0 0 0 (lv_args 0 a) [] (bX11_benches_0 J a) := by
  unfold bX11_benches_0
  split
  · rename_i x0
    refine c_sub [0] rfl (loc' := [(0, .ref x0)]) ?_
    refine q_iconst hC dX11_benches_0 rfl ?_
    refine q_istore_nA hC (loc' := [(1, .int 0), (0, .ref x0)]) dX11_benches_1 rfl (Nat.le_of_ble_eq_true rfl) rfl ?_
    refine q_iconst hC dX11_benches_2 rfl ?_
    refine q_istore_nA hC (loc' := [(2, .int 0), (1, .int 0), (0, .ref x0)]) dX11_benches_3 rfl (Nat.le_of_ble_eq_true rfl) rfl ?_
    exact c_sub [2, 1, 0] rfl (hJ 1 [.ref x0, .int 0, .int 0])
  · exact c_no
theorem pX11_benches_1 {Γ : CT} (hC : Ctx Γ "SpiritWallModel" cX11_benches 3 (some .int) rmX11_benches) (hnt : NT Γ) (J : JT) (hJ : ∀ L a, Cor Γ 3 (lX11_benches L a).1 (lX11_benches L a).2.1 (lX11_benches L a).2.2.1 (lX11_benches L a).2.2.2.1 (lX11_benches L a).2.2.2.2 (J L a)) (a : List Value) : Cor Γ 3 0 0 4 (List.zip [0, 1, 2] a) [] (bX11_benches_1 J a) := by
  unfold bX11_benches_1
  split
  · rename_i x0 x1 x2
    refine c_sub [0, 1, 2] rfl (loc' := [(0, .ref x0), (1, .int x1), (2, .int x2)]) ?_
    refine q_iload_n hC 2 dX11_benches_4 rfl rfl ?_
    refine q_aload_n hC 0 dX11_benches_5 rfl rfl ?_
    refine q_cVI hC hnt (stk := [.int x2]) (as := []) sX11_marks (ci := 11) (by decide) rfl nX11_marks rfl w_843 w_845 w_846 w_830 w_844 (Nat.le_of_ble_eq_true rfl) dX11_benches_6 rfl (fun v1 => ?_)
    refine q_ic_ge hC 27 dX11_benches_9 rfl ?_ ?_
    · refine q_iload_n hC 1 dX11_benches_27 rfl rfl ?_
      exact q_iret hC dX11_benches_28 (Nat.le_of_ble_eq_true rfl) (Nat.le_of_ble_eq_true rfl)
    · refine q_iload_n hC 1 dX11_benches_12 rfl rfl ?_
      refine q_aload_n hC 0 dX11_benches_13 rfl rfl ?_
      refine q_iload_n hC 2 dX11_benches_14 rfl rfl ?_
      refine q_iconst hC dX11_benches_15 rfl ?_
      refine q_cVI hC hnt (stk := [.int x1]) (as := [.int x2, .int 2]) sX11_of (ci := 11) (by decide) rfl nX11_of rfl w_862 w_864 w_865 w_830 w_863 (Nat.le_of_ble_eq_true rfl) dX11_benches_16 rfl (fun v2 => ?_)
      refine q_iadd hC dX11_benches_19 ?_
      refine q_istore_n hC (fun y1_3 => [(1, .int y1_3), (0, .ref x0), (2, .int x2)]) dX11_benches_20 rfl (Nat.le_of_ble_eq_true rfl) (fun _ => rfl) (fun y1_3 => ?_)
      refine q_iincA hC (loc' := [(2, .int (x2 + 1)), (1, .int y1_3), (0, .ref x0)]) 2 1 dX11_benches_21 rfl rfl (Nat.le_of_ble_eq_true rfl) rfl ?_
      refine q_goto hC 4 dX11_benches_24 rfl ?_
      exact c_sub [2, 1, 0] rfl (hJ 1 [.ref x0, .int y1_3, .int (x2 + 1)])
  · exact c_no
theorem sX11_benches : Snd yX11_benches (.code yX11_benches cX11_benches 3 (some .int)) rmX11_benches SX11_benches := by
  refine Snd.of lX11_benches (by decide +kernel) (fun _ => rfl) ?_
  intro Γ hC hnt hnm J hJ L a
  match L with
  | 0 => exact pX11_benches_0 hC hnt J hJ a
  | 1 => exact pX11_benches_1 hC hnt J hJ a
  | L + 2 => exact c_no
/-! SpiritWallModel.struck()I -/
theorem dX11_struck_0 : decode cX11_struck 0 = .ok (.iconst 0, 1) := by decide +kernel
theorem dX11_struck_1 : decode cX11_struck 1 = .ok (.istore_n 1, 1) := by decide +kernel
theorem dX11_struck_2 : decode cX11_struck 2 = .ok (.iconst 0, 1) := by decide +kernel
theorem dX11_struck_3 : decode cX11_struck 3 = .ok (.istore_n 2, 1) := by decide +kernel
theorem dX11_struck_4 : decode cX11_struck 4 = .ok (.iload_n 2, 1) := by decide +kernel
theorem dX11_struck_5 : decode cX11_struck 5 = .ok (.aload_n 0, 1) := by decide +kernel
theorem dX11_struck_6 : decode cX11_struck 6 = .ok (.invokevirtual 97, 3) := by decide +kernel
theorem dX11_struck_9 : decode cX11_struck 9 = .ok (.if_icmp .ge 18, 3) := by decide +kernel
theorem dX11_struck_12 : decode cX11_struck 12 = .ok (.iload_n 1, 1) := by decide +kernel
theorem dX11_struck_13 : decode cX11_struck 13 = .ok (.aload_n 0, 1) := by decide +kernel
theorem dX11_struck_14 : decode cX11_struck 14 = .ok (.iload_n 2, 1) := by decide +kernel
theorem dX11_struck_15 : decode cX11_struck 15 = .ok (.iconst 5, 1) := by decide +kernel
theorem dX11_struck_16 : decode cX11_struck 16 = .ok (.invokevirtual 100, 3) := by decide +kernel
theorem dX11_struck_19 : decode cX11_struck 19 = .ok (.iadd, 1) := by decide +kernel
theorem dX11_struck_20 : decode cX11_struck 20 = .ok (.istore_n 1, 1) := by decide +kernel
theorem dX11_struck_21 : decode cX11_struck 21 = .ok (.iinc 2 1, 3) := by decide +kernel
theorem dX11_struck_24 : decode cX11_struck 24 = .ok (.goto (-20), 3) := by decide +kernel
theorem dX11_struck_27 : decode cX11_struck 27 = .ok (.iload_n 1, 1) := by decide +kernel
theorem dX11_struck_28 : decode cX11_struck 28 = .ok (.ireturn, 1) := by decide +kernel
def rmX11_struck : Room := rmk 7 0 0 172
theorem nX11_struck : nameOk yX11_struck 0 = true := by decide +kernel
def bX11_struck_0 (J : JT) : List Value → Sem
  | [.ref x0] =>
    J 1 [.ref x0, .int 0, .int 0]
  | _ => no
def bX11_struck_1 (J : JT) : List Value → Sem
  | [.ref x0, .int x1, .int x2] =>
    ob 11 x0 (cI SX11_sights [.ref x0] fun v1 =>
    br (v1 ≤ x2)
    (rI x1)
    (ob 11 x0 (cI SX11_ofSight [.ref x0, .int x2, .int 5] fun v2 =>
    lI (x1 + v2) fun y1_3 =>
    J 1 [.ref x0, .int y1_3, .int (x2 + 1)])))
  | _ => no
def bX11_struck (J : JT) : JT := fun L a => match L with
  | 0 => bX11_struck_0 J a
  | 1 => bX11_struck_1 J a
  | _ => no
def SX11_struck : ST := mk 3 bX11_struck
def lX11_struck (L : Nat) (a : List Value) : Nat × Nat × Nat × List (Nat × Value) × List Value := match L with
  | 0 => (0, 0, 0, lv_args 0 a, [])
  | 1 => (0, 0, 4, List.zip [0, 1, 2] a, [])
  | _ => (0, 0, 0, [], [])
theorem pX11_struck_0 {Γ : CT} (hC : Ctx Γ "SpiritWallModel" cX11_struck 3 (some .int) rmX11_struck) (hnt : NT Γ) (J : JT) (hJ : ∀ L a, Cor Γ 3 (lX11_struck L a).1 (lX11_struck L a).2.1 (lX11_struck L a).2.2.1 (lX11_struck L a).2.2.2.1 (lX11_struck L a).2.2.2.2 (J L a)) (a : List Value) : Cor Γ 3 0 0 0 (lv_args 0 a) [] (bX11_struck_0 J a) := by
  unfold bX11_struck_0
  split
  · rename_i x0
    refine c_sub [0] rfl (loc' := [(0, .ref x0)]) ?_
    refine q_iconst hC dX11_struck_0 rfl ?_
    refine q_istore_nA hC (loc' := [(1, .int 0), (0, .ref x0)]) dX11_struck_1 rfl (Nat.le_of_ble_eq_true rfl) rfl ?_
    refine q_iconst hC dX11_struck_2 rfl ?_
    refine q_istore_nA hC (loc' := [(2, .int 0), (1, .int 0), (0, .ref x0)]) dX11_struck_3 rfl (Nat.le_of_ble_eq_true rfl) rfl ?_
    exact c_sub [2, 1, 0] rfl (hJ 1 [.ref x0, .int 0, .int 0])
  · exact c_no
theorem pX11_struck_1 {Γ : CT} (hC : Ctx Γ "SpiritWallModel" cX11_struck 3 (some .int) rmX11_struck) (hnt : NT Γ) (J : JT) (hJ : ∀ L a, Cor Γ 3 (lX11_struck L a).1 (lX11_struck L a).2.1 (lX11_struck L a).2.2.1 (lX11_struck L a).2.2.2.1 (lX11_struck L a).2.2.2.2 (J L a)) (a : List Value) : Cor Γ 3 0 0 4 (List.zip [0, 1, 2] a) [] (bX11_struck_1 J a) := by
  unfold bX11_struck_1
  split
  · rename_i x0 x1 x2
    refine c_sub [0, 1, 2] rfl (loc' := [(0, .ref x0), (1, .int x1), (2, .int x2)]) ?_
    refine q_iload_n hC 2 dX11_struck_4 rfl rfl ?_
    refine q_aload_n hC 0 dX11_struck_5 rfl rfl ?_
    refine q_cVI hC hnt (stk := [.int x2]) (as := []) sX11_sights (ci := 11) (by decide) rfl nX11_sights rfl w_854 w_856 w_857 w_830 w_855 (Nat.le_of_ble_eq_true rfl) dX11_struck_6 rfl (fun v1 => ?_)
    refine q_ic_ge hC 27 dX11_struck_9 rfl ?_ ?_
    · refine q_iload_n hC 1 dX11_struck_27 rfl rfl ?_
      exact q_iret hC dX11_struck_28 (Nat.le_of_ble_eq_true rfl) (Nat.le_of_ble_eq_true rfl)
    · refine q_iload_n hC 1 dX11_struck_12 rfl rfl ?_
      refine q_aload_n hC 0 dX11_struck_13 rfl rfl ?_
      refine q_iload_n hC 2 dX11_struck_14 rfl rfl ?_
      refine q_iconst hC dX11_struck_15 rfl ?_
      refine q_cVI hC hnt (stk := [.int x1]) (as := [.int x2, .int 5]) sX11_ofSight (ci := 11) (by decide) rfl nX11_ofSight rfl w_858 w_860 w_861 w_830 w_859 (Nat.le_of_ble_eq_true rfl) dX11_struck_16 rfl (fun v2 => ?_)
      refine q_iadd hC dX11_struck_19 ?_
      refine q_istore_n hC (fun y1_3 => [(1, .int y1_3), (0, .ref x0), (2, .int x2)]) dX11_struck_20 rfl (Nat.le_of_ble_eq_true rfl) (fun _ => rfl) (fun y1_3 => ?_)
      refine q_iincA hC (loc' := [(2, .int (x2 + 1)), (1, .int y1_3), (0, .ref x0)]) 2 1 dX11_struck_21 rfl rfl (Nat.le_of_ble_eq_true rfl) rfl ?_
      refine q_goto hC 4 dX11_struck_24 rfl ?_
      exact c_sub [2, 1, 0] rfl (hJ 1 [.ref x0, .int y1_3, .int (x2 + 1)])
  · exact c_no
theorem sX11_struck : Snd yX11_struck (.code yX11_struck cX11_struck 3 (some .int)) rmX11_struck SX11_struck := by
  refine Snd.of lX11_struck (by decide +kernel) (fun _ => rfl) ?_
  intro Γ hC hnt hnm J hJ L a
  match L with
  | 0 => exact pX11_struck_0 hC hnt J hJ a
  | 1 => exact pX11_struck_1 hC hnt J hJ a
  | L + 2 => exact c_no
/-! SpiritWallModel.parts()I -/
theorem dX11_parts_0 : decode cX11_parts 0 = .ok (.iconst 0, 1) := by decide +kernel
theorem dX11_parts_1 : decode cX11_parts 1 = .ok (.istore_n 1, 1) := by decide +kernel
theorem dX11_parts_2 : decode cX11_parts 2 = .ok (.iconst 0, 1) := by decide +kernel
theorem dX11_parts_3 : decode cX11_parts 3 = .ok (.istore_n 2, 1) := by decide +kernel
theorem dX11_parts_4 : decode cX11_parts 4 = .ok (.iload_n 2, 1) := by decide +kernel
theorem dX11_parts_5 : decode cX11_parts 5 = .ok (.aload_n 0, 1) := by decide +kernel
theorem dX11_parts_6 : decode cX11_parts 6 = .ok (.invokevirtual 85, 3) := by decide +kernel
theorem dX11_parts_9 : decode cX11_parts 9 = .ok (.if_icmp .ge 23, 3) := by decide +kernel
theorem dX11_parts_12 : decode cX11_parts 12 = .ok (.aload_n 0, 1) := by decide +kernel
theorem dX11_parts_13 : decode cX11_parts 13 = .ok (.getfield 44, 3) := by decide +kernel
theorem dX11_parts_16 : decode cX11_parts 16 = .ok (.iload_n 2, 1) := by decide +kernel
theorem dX11_parts_17 : decode cX11_parts 17 = .ok (.iaload, 1) := by decide +kernel
theorem dX11_parts_18 : decode cX11_parts 18 = .ok (.iload_n 2, 1) := by decide +kernel
theorem dX11_parts_19 : decode cX11_parts 19 = .ok (.if_icmp .ne 7, 3) := by decide +kernel
theorem dX11_parts_22 : decode cX11_parts 22 = .ok (.iload_n 1, 1) := by decide +kernel
theorem dX11_parts_23 : decode cX11_parts 23 = .ok (.iconst 1, 1) := by decide +kernel
theorem dX11_parts_24 : decode cX11_parts 24 = .ok (.iadd, 1) := by decide +kernel
theorem dX11_parts_25 : decode cX11_parts 25 = .ok (.istore_n 1, 1) := by decide +kernel
theorem dX11_parts_26 : decode cX11_parts 26 = .ok (.iinc 2 1, 3) := by decide +kernel
theorem dX11_parts_29 : decode cX11_parts 29 = .ok (.goto (-25), 3) := by decide +kernel
theorem dX11_parts_32 : decode cX11_parts 32 = .ok (.iload_n 1, 1) := by decide +kernel
theorem dX11_parts_33 : decode cX11_parts 33 = .ok (.ireturn, 1) := by decide +kernel
def rmX11_parts : Room := rmk 7 0 0 170
theorem nX11_parts : nameOk yX11_parts 0 = true := by decide +kernel
def bX11_parts_0 (J : JT) : List Value → Sem
  | [.ref x0] =>
    J 1 [.ref x0, .int 0, .int 0]
  | _ => no
def bX11_parts_1 (J : JT) : List Value → Sem
  | [.ref x0, .int x1, .int x2] =>
    ob 11 x0 (cI SX11_marks [.ref x0] fun v1 =>
    br (v1 ≤ x2)
    (rI x1)
    (gR 11 15 x0 fun r2 =>
    aI r2 x2 fun v3 =>
    br (v3 = x2)
    (lI (x1 + 1) fun y1_4 =>
    J 1 [.ref x0, .int y1_4, .int (x2 + 1)])
    (J 1 [.ref x0, .int x1, .int (x2 + 1)])))
  | _ => no
def bX11_parts (J : JT) : JT := fun L a => match L with
  | 0 => bX11_parts_0 J a
  | 1 => bX11_parts_1 J a
  | _ => no
def SX11_parts : ST := mk 3 bX11_parts
def lX11_parts (L : Nat) (a : List Value) : Nat × Nat × Nat × List (Nat × Value) × List Value := match L with
  | 0 => (0, 0, 0, lv_args 0 a, [])
  | 1 => (0, 0, 4, List.zip [0, 1, 2] a, [])
  | _ => (0, 0, 0, [], [])
theorem pX11_parts_0 {Γ : CT} (hC : Ctx Γ "SpiritWallModel" cX11_parts 3 (some .int) rmX11_parts) (hnt : NT Γ) (J : JT) (hJ : ∀ L a, Cor Γ 3 (lX11_parts L a).1 (lX11_parts L a).2.1 (lX11_parts L a).2.2.1 (lX11_parts L a).2.2.2.1 (lX11_parts L a).2.2.2.2 (J L a)) (a : List Value) : Cor Γ 3 0 0 0 (lv_args 0 a) [] (bX11_parts_0 J a) := by
  unfold bX11_parts_0
  split
  · rename_i x0
    refine c_sub [0] rfl (loc' := [(0, .ref x0)]) ?_
    refine q_iconst hC dX11_parts_0 rfl ?_
    refine q_istore_nA hC (loc' := [(1, .int 0), (0, .ref x0)]) dX11_parts_1 rfl (Nat.le_of_ble_eq_true rfl) rfl ?_
    refine q_iconst hC dX11_parts_2 rfl ?_
    refine q_istore_nA hC (loc' := [(2, .int 0), (1, .int 0), (0, .ref x0)]) dX11_parts_3 rfl (Nat.le_of_ble_eq_true rfl) rfl ?_
    exact c_sub [2, 1, 0] rfl (hJ 1 [.ref x0, .int 0, .int 0])
  · exact c_no
theorem pX11_parts_1 {Γ : CT} (hC : Ctx Γ "SpiritWallModel" cX11_parts 3 (some .int) rmX11_parts) (hnt : NT Γ) (J : JT) (hJ : ∀ L a, Cor Γ 3 (lX11_parts L a).1 (lX11_parts L a).2.1 (lX11_parts L a).2.2.1 (lX11_parts L a).2.2.2.1 (lX11_parts L a).2.2.2.2 (J L a)) (a : List Value) : Cor Γ 3 0 0 4 (List.zip [0, 1, 2] a) [] (bX11_parts_1 J a) := by
  unfold bX11_parts_1
  split
  · rename_i x0 x1 x2
    refine c_sub [0, 1, 2] rfl (loc' := [(0, .ref x0), (1, .int x1), (2, .int x2)]) ?_
    refine q_iload_n hC 2 dX11_parts_4 rfl rfl ?_
    refine q_aload_n hC 0 dX11_parts_5 rfl rfl ?_
    refine q_cVI hC hnt (stk := [.int x2]) (as := []) sX11_marks (ci := 11) (by decide) rfl nX11_marks rfl w_843 w_845 w_846 w_830 w_844 (Nat.le_of_ble_eq_true rfl) dX11_parts_6 rfl (fun v1 => ?_)
    refine q_ic_ge hC 32 dX11_parts_9 rfl ?_ ?_
    · refine q_iload_n hC 1 dX11_parts_32 rfl rfl ?_
      exact q_iret hC dX11_parts_33 (Nat.le_of_ble_eq_true rfl) (Nat.le_of_ble_eq_true rfl)
    · refine q_aload_n hC 0 dX11_parts_12 rfl rfl ?_
      refine q_getR hC (by decide) (by decide) rfl w_820 dX11_parts_13 (fun r2 => ?_)
      refine q_iload_n hC 2 dX11_parts_16 rfl rfl ?_
      refine q_iald hC dX11_parts_17 (fun v3 => ?_)
      refine q_iload_n hC 2 dX11_parts_18 rfl rfl ?_
      refine q_ic_ne hC 26 dX11_parts_19 rfl ?_ ?_
      · refine q_iincA hC (loc' := [(2, .int (x2 + 1)), (0, .ref x0), (1, .int x1)]) 2 1 dX11_parts_26 rfl rfl (Nat.le_of_ble_eq_true rfl) rfl ?_
        refine q_goto hC 4 dX11_parts_29 rfl ?_
        exact c_sub [1, 2, 0] rfl (hJ 1 [.ref x0, .int x1, .int (x2 + 1)])
      · refine q_iload_n hC 1 dX11_parts_22 rfl rfl ?_
        refine q_iconst hC dX11_parts_23 rfl ?_
        refine q_iadd hC dX11_parts_24 ?_
        refine q_istore_n hC (fun y1_4 => [(1, .int y1_4), (0, .ref x0), (2, .int x2)]) dX11_parts_25 rfl (Nat.le_of_ble_eq_true rfl) (fun _ => rfl) (fun y1_4 => ?_)
        refine q_iincA hC (loc' := [(2, .int (x2 + 1)), (1, .int y1_4), (0, .ref x0)]) 2 1 dX11_parts_26 rfl rfl (Nat.le_of_ble_eq_true rfl) rfl ?_
        refine q_goto hC 4 dX11_parts_29 rfl ?_
        exact c_sub [2, 1, 0] rfl (hJ 1 [.ref x0, .int y1_4, .int (x2 + 1)])
  · exact c_no
theorem sX11_parts : Snd yX11_parts (.code yX11_parts cX11_parts 3 (some .int)) rmX11_parts SX11_parts := by
  refine Snd.of lX11_parts (by decide +kernel) (fun _ => rfl) ?_
  intro Γ hC hnt hnm J hJ L a
  match L with
  | 0 => exact pX11_parts_0 hC hnt J hJ a
  | 1 => exact pX11_parts_1 hC hnt J hJ a
  | L + 2 => exact c_no
/-! SpiritWallModel.count(I)I -/
theorem dX11_count_0 : decode cX11_count 0 = .ok (.aload_n 0, 1) := by decide +kernel
theorem dX11_count_1 : decode cX11_count 1 = .ok (.iconst 0, 1) := by decide +kernel
theorem dX11_count_2 : decode cX11_count 2 = .ok (.putfield 67, 3) := by decide +kernel
theorem dX11_count_5 : decode cX11_count 5 = .ok (.aload_n 0, 1) := by decide +kernel
theorem dX11_count_6 : decode cX11_count 6 = .ok (.invokevirtual 244, 3) := by decide +kernel
theorem dX11_count_9 : decode cX11_count 9 = .ok (.iload_n 1, 1) := by decide +kernel
theorem dX11_count_10 : decode cX11_count 10 = .ok (.tableswitch 113 0 10 #[58, 63, 68, 73, 78, 83, 88, 93, 98, 103, 108], 58) := by decide +kernel
theorem dX11_count_68 : decode cX11_count 68 = .ok (.aload_n 0, 1) := by decide +kernel
theorem dX11_count_69 : decode cX11_count 69 = .ok (.invokevirtual 85, 3) := by decide +kernel
theorem dX11_count_72 : decode cX11_count 72 = .ok (.ireturn, 1) := by decide +kernel
theorem dX11_count_73 : decode cX11_count 73 = .ok (.aload_n 0, 1) := by decide +kernel
theorem dX11_count_74 : decode cX11_count 74 = .ok (.invokevirtual 260, 3) := by decide +kernel
theorem dX11_count_77 : decode cX11_count 77 = .ok (.ireturn, 1) := by decide +kernel
theorem dX11_count_78 : decode cX11_count 78 = .ok (.aload_n 0, 1) := by decide +kernel
theorem dX11_count_79 : decode cX11_count 79 = .ok (.invokevirtual 97, 3) := by decide +kernel
theorem dX11_count_82 : decode cX11_count 82 = .ok (.ireturn, 1) := by decide +kernel
theorem dX11_count_83 : decode cX11_count 83 = .ok (.aload_n 0, 1) := by decide +kernel
theorem dX11_count_84 : decode cX11_count 84 = .ok (.invokevirtual 263, 3) := by decide +kernel
theorem dX11_count_87 : decode cX11_count 87 = .ok (.ireturn, 1) := by decide +kernel
theorem dX11_count_88 : decode cX11_count 88 = .ok (.aload_n 0, 1) := by decide +kernel
theorem dX11_count_89 : decode cX11_count 89 = .ok (.invokevirtual 202, 3) := by decide +kernel
theorem dX11_count_92 : decode cX11_count 92 = .ok (.ireturn, 1) := by decide +kernel
theorem dX11_count_93 : decode cX11_count 93 = .ok (.aload_n 0, 1) := by decide +kernel
theorem dX11_count_94 : decode cX11_count 94 = .ok (.invokevirtual 205, 3) := by decide +kernel
theorem dX11_count_97 : decode cX11_count 97 = .ok (.ireturn, 1) := by decide +kernel
theorem dX11_count_98 : decode cX11_count 98 = .ok (.aload_n 0, 1) := by decide +kernel
theorem dX11_count_99 : decode cX11_count 99 = .ok (.invokevirtual 235, 3) := by decide +kernel
theorem dX11_count_102 : decode cX11_count 102 = .ok (.ireturn, 1) := by decide +kernel
theorem dX11_count_103 : decode cX11_count 103 = .ok (.aload_n 0, 1) := by decide +kernel
theorem dX11_count_104 : decode cX11_count 104 = .ok (.invokevirtual 266, 3) := by decide +kernel
theorem dX11_count_107 : decode cX11_count 107 = .ok (.ireturn, 1) := by decide +kernel
theorem dX11_count_108 : decode cX11_count 108 = .ok (.aload_n 0, 1) := by decide +kernel
theorem dX11_count_109 : decode cX11_count 109 = .ok (.invokevirtual 269, 3) := by decide +kernel
theorem dX11_count_112 : decode cX11_count 112 = .ok (.ireturn, 1) := by decide +kernel
theorem dX11_count_113 : decode cX11_count 113 = .ok (.aload_n 0, 1) := by decide +kernel
theorem dX11_count_114 : decode cX11_count 114 = .ok (.getfield 74, 3) := by decide +kernel
theorem dX11_count_117 : decode cX11_count 117 = .ok (.ireturn, 1) := by decide +kernel
theorem dX11_count_118 : decode cX11_count 118 = .ok (.aload_n 0, 1) := by decide +kernel
theorem dX11_count_119 : decode cX11_count 119 = .ok (.invokevirtual 272, 3) := by decide +kernel
theorem dX11_count_122 : decode cX11_count 122 = .ok (.ireturn, 1) := by decide +kernel
theorem dX11_count_123 : decode cX11_count 123 = .ok (.iconst (-1), 1) := by decide +kernel
theorem dX11_count_124 : decode cX11_count 124 = .ok (.ireturn, 1) := by decide +kernel
def rmX11_count : Room := rmk 27 0 0 641
theorem nX11_count : nameOk yX11_count 1 = true := by decide +kernel
def bX11_count_0 (J : JT) : List Value → Sem
  | [.ref x0, .int x1] =>
    pI 11 0 x0 0 <|
    ob 11 x0 (cV SX11_reckons [.ref x0] <|
    sw x1 (0) 11 fun k => match k with
    | 0 => (ob 11 x0 (cI SX11_marks [.ref x0] fun v1 =>
    rI v1))
    | 1 => (ob 11 x0 (cI SX11_benches [.ref x0] fun v2 =>
    rI v2))
    | 2 => (ob 11 x0 (cI SX11_sights [.ref x0] fun v3 =>
    rI v3))
    | 3 => (ob 11 x0 (cI SX11_struck [.ref x0] fun v4 =>
    rI v4))
    | 4 => (ob 11 x0 (cI SX11_edges [.ref x0] fun v5 =>
    rI v5))
    | 5 => (ob 11 x0 (cI SX11_takenEdges [.ref x0] fun v6 =>
    rI v6))
    | 6 => (ob 11 x0 (cI SX11_loops [.ref x0] fun v7 =>
    rI v7))
    | 7 => (ob 11 x0 (cI SX11_closing [.ref x0] fun v8 =>
    rI v8))
    | 8 => (ob 11 x0 (cI SX11_withHeights [.ref x0] fun v9 =>
    rI v9))
    | 9 => (gI 11 7 x0 fun v10 =>
    rI v10)
    | 10 => (ob 11 x0 (cI SX11_parts [.ref x0] fun v11 =>
    rI v11))
    | _ => (rI (-1)))
  | _ => no
def bX11_count (J : JT) : JT := fun L a => match L with
  | 0 => bX11_count_0 J a
  | _ => no
def SX11_count : ST := mk 2 bX11_count
def lX11_count (L : Nat) (a : List Value) : Nat × Nat × Nat × List (Nat × Value) × List Value := match L with
  | 0 => (0, 0, 0, lv_args 0 a, [])
  | _ => (0, 0, 0, [], [])
theorem pX11_count_0 {Γ : CT} (hC : Ctx Γ "SpiritWallModel" cX11_count 2 (some .int) rmX11_count) (hnt : NT Γ) (J : JT) (hJ : ∀ L a, Cor Γ 2 (lX11_count L a).1 (lX11_count L a).2.1 (lX11_count L a).2.2.1 (lX11_count L a).2.2.2.1 (lX11_count L a).2.2.2.2 (J L a)) (a : List Value) : Cor Γ 2 0 0 0 (lv_args 0 a) [] (bX11_count_0 J a) := by
  unfold bX11_count_0
  split
  · rename_i x0 x1
    refine c_sub [0, 1] rfl (loc' := [(0, .ref x0), (1, .int x1)]) ?_
    refine q_aload_n hC 0 dX11_count_0 rfl rfl ?_
    refine q_iconst hC dX11_count_1 rfl ?_
    refine q_putI hC (by decide) (by decide) rfl rfl w_833 dX11_count_2 ?_
    refine q_aload_n hC 0 dX11_count_5 rfl rfl ?_
    refine q_cVV hC hnt (stk := []) (as := []) sX11_reckons (ci := 11) (by decide) rfl nX11_reckons rfl w_1016 w_1018 w_1019 w_830 w_1017 (Nat.le_of_ble_eq_true rfl) dX11_count_6 rfl ?_
    refine q_iload_n hC 1 dX11_count_9 rfl rfl ?_
    refine q_sw hC (0) 11 (fun k => ([68, 73, 78, 83, 88, 93, 98, 103, 108, 113, 118] : List Nat).getD k 123) dX11_count_10 rfl rfl (by decide +kernel) rfl ?_
    intro i hi
    match i, hi with
    | 0, _ =>
      refine c_pc (pc' := 68) rfl ?_
      refine q_aload_n hC 0 dX11_count_68 rfl rfl ?_
      refine q_cVI hC hnt (stk := []) (as := []) sX11_marks (ci := 11) (by decide) rfl nX11_marks rfl w_843 w_845 w_846 w_830 w_844 (Nat.le_of_ble_eq_true rfl) dX11_count_69 rfl (fun v1 => ?_)
      exact q_iret hC dX11_count_72 (Nat.le_of_ble_eq_true rfl) (Nat.le_of_ble_eq_true rfl)
    | 1, _ =>
      refine c_pc (pc' := 73) rfl ?_
      refine q_aload_n hC 0 dX11_count_73 rfl rfl ?_
      refine q_cVI hC hnt (stk := []) (as := []) sX11_benches (ci := 11) (by decide) rfl nX11_benches rfl w_1036 w_1038 w_1039 w_830 w_1037 (Nat.le_of_ble_eq_true rfl) dX11_count_74 rfl (fun v2 => ?_)
      exact q_iret hC dX11_count_77 (Nat.le_of_ble_eq_true rfl) (Nat.le_of_ble_eq_true rfl)
    | 2, _ =>
      refine c_pc (pc' := 78) rfl ?_
      refine q_aload_n hC 0 dX11_count_78 rfl rfl ?_
      refine q_cVI hC hnt (stk := []) (as := []) sX11_sights (ci := 11) (by decide) rfl nX11_sights rfl w_854 w_856 w_857 w_830 w_855 (Nat.le_of_ble_eq_true rfl) dX11_count_79 rfl (fun v3 => ?_)
      exact q_iret hC dX11_count_82 (Nat.le_of_ble_eq_true rfl) (Nat.le_of_ble_eq_true rfl)
    | 3, _ =>
      refine c_pc (pc' := 83) rfl ?_
      refine q_aload_n hC 0 dX11_count_83 rfl rfl ?_
      refine q_cVI hC hnt (stk := []) (as := []) sX11_struck (ci := 11) (by decide) rfl nX11_struck rfl w_1040 w_1042 w_1043 w_830 w_1041 (Nat.le_of_ble_eq_true rfl) dX11_count_84 rfl (fun v4 => ?_)
      exact q_iret hC dX11_count_87 (Nat.le_of_ble_eq_true rfl) (Nat.le_of_ble_eq_true rfl)
    | 4, _ =>
      refine c_pc (pc' := 88) rfl ?_
      refine q_aload_n hC 0 dX11_count_88 rfl rfl ?_
      refine q_cVI hC hnt (stk := []) (as := []) sX11_edges (ci := 11) (by decide) rfl nX11_edges rfl w_963 w_965 w_966 w_830 w_964 (Nat.le_of_ble_eq_true rfl) dX11_count_89 rfl (fun v5 => ?_)
      exact q_iret hC dX11_count_92 (Nat.le_of_ble_eq_true rfl) (Nat.le_of_ble_eq_true rfl)
    | 5, _ =>
      refine c_pc (pc' := 93) rfl ?_
      refine q_aload_n hC 0 dX11_count_93 rfl rfl ?_
      refine q_cVI hC hnt (stk := []) (as := []) sX11_takenEdges (ci := 11) (by decide) rfl nX11_takenEdges rfl w_967 w_969 w_970 w_830 w_968 (Nat.le_of_ble_eq_true rfl) dX11_count_94 rfl (fun v6 => ?_)
      exact q_iret hC dX11_count_97 (Nat.le_of_ble_eq_true rfl) (Nat.le_of_ble_eq_true rfl)
    | 6, _ =>
      refine c_pc (pc' := 98) rfl ?_
      refine q_aload_n hC 0 dX11_count_98 rfl rfl ?_
      refine q_cVI hC hnt (stk := []) (as := []) sX11_loops (ci := 11) (by decide) rfl nX11_loops rfl w_1004 w_1006 w_1007 w_830 w_1005 (Nat.le_of_ble_eq_true rfl) dX11_count_99 rfl (fun v7 => ?_)
      exact q_iret hC dX11_count_102 (Nat.le_of_ble_eq_true rfl) (Nat.le_of_ble_eq_true rfl)
    | 7, _ =>
      refine c_pc (pc' := 103) rfl ?_
      refine q_aload_n hC 0 dX11_count_103 rfl rfl ?_
      refine q_cVI hC hnt (stk := []) (as := []) sX11_closing (ci := 11) (by decide) rfl nX11_closing rfl w_1044 w_1046 w_1047 w_830 w_1045 (Nat.le_of_ble_eq_true rfl) dX11_count_104 rfl (fun v8 => ?_)
      exact q_iret hC dX11_count_107 (Nat.le_of_ble_eq_true rfl) (Nat.le_of_ble_eq_true rfl)
    | 8, _ =>
      refine c_pc (pc' := 108) rfl ?_
      refine q_aload_n hC 0 dX11_count_108 rfl rfl ?_
      refine q_cVI hC hnt (stk := []) (as := []) sX11_withHeights (ci := 11) (by decide) rfl nX11_withHeights rfl w_1048 w_1050 w_1051 w_830 w_1049 (Nat.le_of_ble_eq_true rfl) dX11_count_109 rfl (fun v9 => ?_)
      exact q_iret hC dX11_count_112 (Nat.le_of_ble_eq_true rfl) (Nat.le_of_ble_eq_true rfl)
    | 9, _ =>
      refine c_pc (pc' := 113) rfl ?_
      refine q_aload_n hC 0 dX11_count_113 rfl rfl ?_
      refine q_getI hC (by decide) (by decide) rfl w_837 dX11_count_114 (fun v10 => ?_)
      exact q_iret hC dX11_count_117 (Nat.le_of_ble_eq_true rfl) (Nat.le_of_ble_eq_true rfl)
    | 10, _ =>
      refine c_pc (pc' := 118) rfl ?_
      refine q_aload_n hC 0 dX11_count_118 rfl rfl ?_
      refine q_cVI hC hnt (stk := []) (as := []) sX11_parts (ci := 11) (by decide) rfl nX11_parts rfl w_1052 w_1054 w_1055 w_830 w_1053 (Nat.le_of_ble_eq_true rfl) dX11_count_119 rfl (fun v11 => ?_)
      exact q_iret hC dX11_count_122 (Nat.le_of_ble_eq_true rfl) (Nat.le_of_ble_eq_true rfl)
    | 11, _ =>
      refine c_pc (pc' := 123) rfl ?_
      refine q_iconst hC dX11_count_123 rfl ?_
      exact q_iret hC dX11_count_124 (Nat.le_of_ble_eq_true rfl) (Nat.le_of_ble_eq_true rfl)
    | k + 12, h => exact absurd h (by omega)
  · exact c_no
theorem sX11_count : Snd yX11_count (.code yX11_count cX11_count 2 (some .int)) rmX11_count SX11_count := by
  refine Snd.of lX11_count (by decide +kernel) (fun _ => rfl) ?_
  intro Γ hC hnt hnm J hJ L a
  match L with
  | 0 => exact pX11_count_0 hC hnt J hJ a
  | L + 1 => exact c_no
/-! SpiritWallModel.setting(I)I -/
theorem dX11_setting_0 : decode cX11_setting 0 = .ok (.aload_n 0, 1) := by decide +kernel
theorem dX11_setting_1 : decode cX11_setting 1 = .ok (.iconst 0, 1) := by decide +kernel
theorem dX11_setting_2 : decode cX11_setting 2 = .ok (.putfield 67, 3) := by decide +kernel
theorem dX11_setting_5 : decode cX11_setting 5 = .ok (.iload_n 1, 1) := by decide +kernel
theorem dX11_setting_6 : decode cX11_setting 6 = .ok (.i2l, 1) := by decide +kernel
theorem dX11_setting_7 : decode cX11_setting 7 = .ok (.lconst 0, 1) := by decide +kernel
theorem dX11_setting_8 : decode cX11_setting 8 = .ok (.ldc2_w 275, 3) := by decide +kernel
theorem dX11_setting_11 : decode cX11_setting 11 = .ok (.invokestatic 89, 3) := by decide +kernel
theorem dX11_setting_14 : decode cX11_setting 14 = .ok (.ifCond .eq 14, 3) := by decide +kernel
theorem dX11_setting_17 : decode cX11_setting 17 = .ok (.aload_n 0, 1) := by decide +kernel
theorem dX11_setting_18 : decode cX11_setting 18 = .ok (.getfield 7, 3) := by decide +kernel
theorem dX11_setting_21 : decode cX11_setting 21 = .ok (.iconst 2, 1) := by decide +kernel
theorem dX11_setting_22 : decode cX11_setting 22 = .ok (.iload_n 1, 1) := by decide +kernel
theorem dX11_setting_23 : decode cX11_setting 23 = .ok (.iadd, 1) := by decide +kernel
theorem dX11_setting_24 : decode cX11_setting 24 = .ok (.iaload, 1) := by decide +kernel
theorem dX11_setting_25 : decode cX11_setting 25 = .ok (.goto 4, 3) := by decide +kernel
theorem dX11_setting_28 : decode cX11_setting 28 = .ok (.iconst (-1), 1) := by decide +kernel
theorem dX11_setting_29 : decode cX11_setting 29 = .ok (.ireturn, 1) := by decide +kernel
def rmX11_setting : Room := rmk 7 0 0 175
theorem nX11_setting : nameOk yX11_setting 1 = true := by decide +kernel
def bX11_setting_0 (J : JT) : List Value → Sem
  | [.ref x0, .int x1] =>
    pI 11 0 x0 0 <|
    cI SX11_isIn [.long (x1.toInt64), .long 0, .long 4] fun v1 =>
    br (v1 = 0)
    (rI (-1))
    (gR 11 1 x0 fun r2 =>
    aI r2 (2 + x1) fun v3 =>
    rI v3)
  | _ => no
def bX11_setting (J : JT) : JT := fun L a => match L with
  | 0 => bX11_setting_0 J a
  | _ => no
def SX11_setting : ST := mk 2 bX11_setting
def lX11_setting (L : Nat) (a : List Value) : Nat × Nat × Nat × List (Nat × Value) × List Value := match L with
  | 0 => (0, 0, 0, lv_args 0 a, [])
  | _ => (0, 0, 0, [], [])
theorem pX11_setting_0 {Γ : CT} (hC : Ctx Γ "SpiritWallModel" cX11_setting 2 (some .int) rmX11_setting) (hnt : NT Γ) (J : JT) (hJ : ∀ L a, Cor Γ 2 (lX11_setting L a).1 (lX11_setting L a).2.1 (lX11_setting L a).2.2.1 (lX11_setting L a).2.2.2.1 (lX11_setting L a).2.2.2.2 (J L a)) (a : List Value) : Cor Γ 2 0 0 0 (lv_args 0 a) [] (bX11_setting_0 J a) := by
  unfold bX11_setting_0
  split
  · rename_i x0 x1
    refine c_sub [0, 1] rfl (loc' := [(0, .ref x0), (1, .int x1)]) ?_
    refine q_aload_n hC 0 dX11_setting_0 rfl rfl ?_
    refine q_iconst hC dX11_setting_1 rfl ?_
    refine q_putI hC (by decide) (by decide) rfl rfl w_833 dX11_setting_2 ?_
    refine q_iload_n hC 1 dX11_setting_5 rfl rfl ?_
    refine q_i2l hC dX11_setting_6 ?_
    refine q_lconst hC (v := 0) dX11_setting_7 rfl ?_
    refine q_ldc2 hC w_1056 dX11_setting_8 ?_
    refine q_cSI hC hnt (stk := []) (as := [.long (x1.toInt64), .long 0, .long 4]) sX11_isIn nX11_isIn rfl w_847 w_849 w_830 w_848 (Nat.le_of_ble_eq_true rfl) dX11_setting_11 rfl (fun v1 => ?_)
    refine q_if_eq hC 28 dX11_setting_14 rfl ?_ ?_
    · refine q_iconst hC dX11_setting_28 rfl ?_
      exact q_iret hC dX11_setting_29 (Nat.le_of_ble_eq_true rfl) (Nat.le_of_ble_eq_true rfl)
    · refine q_aload_n hC 0 dX11_setting_17 rfl rfl ?_
      refine q_getR hC (by decide) (by decide) rfl w_808 dX11_setting_18 (fun r2 => ?_)
      refine q_iconst hC dX11_setting_21 rfl ?_
      refine q_iload_n hC 1 dX11_setting_22 rfl rfl ?_
      refine q_iadd hC dX11_setting_23 ?_
      refine q_iald hC dX11_setting_24 (fun v3 => ?_)
      refine q_goto hC 29 dX11_setting_25 rfl ?_
      exact q_iret hC dX11_setting_29 (Nat.le_of_ble_eq_true rfl) (Nat.le_of_ble_eq_true rfl)
  · exact c_no
theorem sX11_setting : Snd yX11_setting (.code yX11_setting cX11_setting 2 (some .int)) rmX11_setting SX11_setting := by
  refine Snd.of lX11_setting (by decide +kernel) (fun _ => rfl) ?_
  intro Γ hC hnt hnm J hJ L a
  match L with
  | 0 => exact pX11_setting_0 hC hnt J hJ a
  | L + 1 => exact c_no
/-! SpiritWallModel.levelError()I -/
theorem dX11_levelError_0 : decode cX11_levelError 0 = .ok (.aload_n 0, 1) := by decide +kernel
theorem dX11_levelError_1 : decode cX11_levelError 1 = .ok (.iconst 0, 1) := by decide +kernel
theorem dX11_levelError_2 : decode cX11_levelError 2 = .ok (.putfield 67, 3) := by decide +kernel
theorem dX11_levelError_5 : decode cX11_levelError 5 = .ok (.aload_n 0, 1) := by decide +kernel
theorem dX11_levelError_6 : decode cX11_levelError 6 = .ok (.invokevirtual 164, 3) := by decide +kernel
theorem dX11_levelError_9 : decode cX11_levelError 9 = .ok (.ireturn, 1) := by decide +kernel
def rmX11_levelError : Room := rmk 13 0 0 313
theorem nX11_levelError : nameOk yX11_levelError 0 = true := by decide +kernel
def bX11_levelError_0 (J : JT) : List Value → Sem
  | [.ref x0] =>
    pI 11 0 x0 0 <|
    ob 11 x0 (cI SX11_errorNow [.ref x0] fun v1 =>
    rI v1)
  | _ => no
def bX11_levelError (J : JT) : JT := fun L a => match L with
  | 0 => bX11_levelError_0 J a
  | _ => no
def SX11_levelError : ST := mk 1 bX11_levelError
def lX11_levelError (L : Nat) (a : List Value) : Nat × Nat × Nat × List (Nat × Value) × List Value := match L with
  | 0 => (0, 0, 0, lv_args 0 a, [])
  | _ => (0, 0, 0, [], [])
theorem pX11_levelError_0 {Γ : CT} (hC : Ctx Γ "SpiritWallModel" cX11_levelError 1 (some .int) rmX11_levelError) (hnt : NT Γ) (J : JT) (hJ : ∀ L a, Cor Γ 1 (lX11_levelError L a).1 (lX11_levelError L a).2.1 (lX11_levelError L a).2.2.1 (lX11_levelError L a).2.2.2.1 (lX11_levelError L a).2.2.2.2 (J L a)) (a : List Value) : Cor Γ 1 0 0 0 (lv_args 0 a) [] (bX11_levelError_0 J a) := by
  unfold bX11_levelError_0
  split
  · rename_i x0
    refine c_sub [0] rfl (loc' := [(0, .ref x0)]) ?_
    refine q_aload_n hC 0 dX11_levelError_0 rfl rfl ?_
    refine q_iconst hC dX11_levelError_1 rfl ?_
    refine q_putI hC (by decide) (by decide) rfl rfl w_833 dX11_levelError_2 ?_
    refine q_aload_n hC 0 dX11_levelError_5 rfl rfl ?_
    refine q_cVI hC hnt (stk := []) (as := []) sX11_errorNow (ci := 11) (by decide) rfl nX11_errorNow rfl w_920 w_922 w_923 w_830 w_921 (Nat.le_of_ble_eq_true rfl) dX11_levelError_6 rfl (fun v1 => ?_)
    exact q_iret hC dX11_levelError_9 (Nat.le_of_ble_eq_true rfl) (Nat.le_of_ble_eq_true rfl)
  · exact c_no
theorem sX11_levelError : Snd yX11_levelError (.code yX11_levelError cX11_levelError 1 (some .int)) rmX11_levelError SX11_levelError := by
  refine Snd.of lX11_levelError (by decide +kernel) (fun _ => rfl) ?_
  intro Γ hC hnt hnm J hJ L a
  match L with
  | 0 => exact pX11_levelError_0 hC hnt J hJ a
  | L + 1 => exact c_no
/-! SpiritWallModel.estimate(II)I -/
theorem dX11_estimate_0 : decode cX11_estimate 0 = .ok (.aload_n 0, 1) := by decide +kernel
theorem dX11_estimate_1 : decode cX11_estimate 1 = .ok (.aload_n 0, 1) := by decide +kernel
theorem dX11_estimate_2 : decode cX11_estimate 2 = .ok (.iload_n 1, 1) := by decide +kernel
theorem dX11_estimate_3 : decode cX11_estimate 3 = .ok (.iload_n 2, 1) := by decide +kernel
theorem dX11_estimate_4 : decode cX11_estimate 4 = .ok (.invokevirtual 277, 3) := by decide +kernel
theorem dX11_estimate_7 : decode cX11_estimate 7 = .ok (.invokevirtual 77, 3) := by decide +kernel
theorem dX11_estimate_10 : decode cX11_estimate 10 = .ok (.ifCond .eq 12, 3) := by decide +kernel
theorem dX11_estimate_13 : decode cX11_estimate 13 = .ok (.aload_n 0, 1) := by decide +kernel
theorem dX11_estimate_14 : decode cX11_estimate 14 = .ok (.iload_n 1, 1) := by decide +kernel
theorem dX11_estimate_15 : decode cX11_estimate 15 = .ok (.iload_n 2, 1) := by decide +kernel
theorem dX11_estimate_16 : decode cX11_estimate 16 = .ok (.invokevirtual 155, 3) := by decide +kernel
theorem dX11_estimate_19 : decode cX11_estimate 19 = .ok (.goto 4, 3) := by decide +kernel
theorem dX11_estimate_22 : decode cX11_estimate 22 = .ok (.iconst 0, 1) := by decide +kernel
theorem dX11_estimate_23 : decode cX11_estimate 23 = .ok (.ireturn, 1) := by decide +kernel
def rmX11_estimate : Room := rmk 11 0 0 268
theorem nX11_estimate : nameOk yX11_estimate 2 = true := by decide +kernel
def bX11_estimate_0 (J : JT) : List Value → Sem
  | [.ref x0, .int x1, .int x2] =>
    ob 11 x0 (cI SX11_areMarks [.ref x0, .int x1, .int x2] fun v1 =>
    ob 11 x0 (cI SX11_is [.ref x0, .int v1] fun v2 =>
    br (v2 = 0)
    (rI 0)
    (ob 11 x0 (cI SX11_estimateOf [.ref x0, .int x1, .int x2] fun v3 =>
    rI v3))))
  | _ => no
def bX11_estimate (J : JT) : JT := fun L a => match L with
  | 0 => bX11_estimate_0 J a
  | _ => no
def SX11_estimate : ST := mk 3 bX11_estimate
def lX11_estimate (L : Nat) (a : List Value) : Nat × Nat × Nat × List (Nat × Value) × List Value := match L with
  | 0 => (0, 0, 0, lv_args 0 a, [])
  | _ => (0, 0, 0, [], [])
theorem pX11_estimate_0 {Γ : CT} (hC : Ctx Γ "SpiritWallModel" cX11_estimate 3 (some .int) rmX11_estimate) (hnt : NT Γ) (J : JT) (hJ : ∀ L a, Cor Γ 3 (lX11_estimate L a).1 (lX11_estimate L a).2.1 (lX11_estimate L a).2.2.1 (lX11_estimate L a).2.2.2.1 (lX11_estimate L a).2.2.2.2 (J L a)) (a : List Value) : Cor Γ 3 0 0 0 (lv_args 0 a) [] (bX11_estimate_0 J a) := by
  unfold bX11_estimate_0
  split
  · rename_i x0 x1 x2
    refine c_sub [0, 1, 2] rfl (loc' := [(0, .ref x0), (1, .int x1), (2, .int x2)]) ?_
    refine q_aload_n hC 0 dX11_estimate_0 rfl rfl ?_
    refine q_aload_n hC 0 dX11_estimate_1 rfl rfl ?_
    refine q_iload_n hC 1 dX11_estimate_2 rfl rfl ?_
    refine q_iload_n hC 2 dX11_estimate_3 rfl rfl ?_
    refine q_cVI hC hnt (stk := [.ref x0]) (as := [.int x1, .int x2]) sX11_areMarks (ci := 11) (by decide) rfl nX11_areMarks rfl w_1057 w_1059 w_1060 w_830 w_1058 (Nat.le_of_ble_eq_true rfl) dX11_estimate_4 rfl (fun v1 => ?_)
    refine q_cVI hC hnt (stk := []) (as := [.int v1]) sX11_is (ci := 11) (by decide) rfl nX11_is rfl w_838 w_840 w_841 w_830 w_839 (Nat.le_of_ble_eq_true rfl) dX11_estimate_7 rfl (fun v2 => ?_)
    refine q_if_eq hC 22 dX11_estimate_10 rfl ?_ ?_
    · refine q_iconst hC dX11_estimate_22 rfl ?_
      exact q_iret hC dX11_estimate_23 (Nat.le_of_ble_eq_true rfl) (Nat.le_of_ble_eq_true rfl)
    · refine q_aload_n hC 0 dX11_estimate_13 rfl rfl ?_
      refine q_iload_n hC 1 dX11_estimate_14 rfl rfl ?_
      refine q_iload_n hC 2 dX11_estimate_15 rfl rfl ?_
      refine q_cVI hC hnt (stk := []) (as := [.int x1, .int x2]) sX11_estimateOf (ci := 11) (by decide) rfl nX11_estimateOf rfl w_911 w_913 w_914 w_830 w_912 (Nat.le_of_ble_eq_true rfl) dX11_estimate_16 rfl (fun v3 => ?_)
      refine q_goto hC 23 dX11_estimate_19 rfl ?_
      exact q_iret hC dX11_estimate_23 (Nat.le_of_ble_eq_true rfl) (Nat.le_of_ble_eq_true rfl)
  · exact c_no
theorem sX11_estimate : Snd yX11_estimate (.code yX11_estimate cX11_estimate 3 (some .int)) rmX11_estimate SX11_estimate := by
  refine Snd.of lX11_estimate (by decide +kernel) (fun _ => rfl) ?_
  intro Γ hC hnt hnm J hJ L a
  match L with
  | 0 => exact pX11_estimate_0 hC hnt J hJ a
  | L + 1 => exact c_no
/-! SpiritWallModel.edgesOf(I)I -/
theorem dX11_edgesOf_0 : decode cX11_edgesOf 0 = .ok (.iconst 0, 1) := by decide +kernel
theorem dX11_edgesOf_1 : decode cX11_edgesOf 1 = .ok (.istore_n 2, 1) := by decide +kernel
theorem dX11_edgesOf_2 : decode cX11_edgesOf 2 = .ok (.iconst 0, 1) := by decide +kernel
theorem dX11_edgesOf_3 : decode cX11_edgesOf 3 = .ok (.istore_n 3, 1) := by decide +kernel
theorem dX11_edgesOf_4 : decode cX11_edgesOf 4 = .ok (.iload_n 3, 1) := by decide +kernel
theorem dX11_edgesOf_5 : decode cX11_edgesOf 5 = .ok (.aload_n 0, 1) := by decide +kernel
theorem dX11_edgesOf_6 : decode cX11_edgesOf 6 = .ok (.invokevirtual 85, 3) := by decide +kernel
theorem dX11_edgesOf_9 : decode cX11_edgesOf 9 = .ok (.if_icmp .ge 22, 3) := by decide +kernel
theorem dX11_edgesOf_12 : decode cX11_edgesOf 12 = .ok (.aload_n 0, 1) := by decide +kernel
theorem dX11_edgesOf_13 : decode cX11_edgesOf 13 = .ok (.iload_n 1, 1) := by decide +kernel
theorem dX11_edgesOf_14 : decode cX11_edgesOf 14 = .ok (.iload_n 3, 1) := by decide +kernel
theorem dX11_edgesOf_15 : decode cX11_edgesOf 15 = .ok (.invokevirtual 173, 3) := by decide +kernel
theorem dX11_edgesOf_18 : decode cX11_edgesOf 18 = .ok (.ifCond .eq 7, 3) := by decide +kernel
theorem dX11_edgesOf_21 : decode cX11_edgesOf 21 = .ok (.iload_n 2, 1) := by decide +kernel
theorem dX11_edgesOf_22 : decode cX11_edgesOf 22 = .ok (.iconst 1, 1) := by decide +kernel
theorem dX11_edgesOf_23 : decode cX11_edgesOf 23 = .ok (.iadd, 1) := by decide +kernel
theorem dX11_edgesOf_24 : decode cX11_edgesOf 24 = .ok (.istore_n 2, 1) := by decide +kernel
theorem dX11_edgesOf_25 : decode cX11_edgesOf 25 = .ok (.iinc 3 1, 3) := by decide +kernel
theorem dX11_edgesOf_28 : decode cX11_edgesOf 28 = .ok (.goto (-24), 3) := by decide +kernel
theorem dX11_edgesOf_31 : decode cX11_edgesOf 31 = .ok (.iload_n 2, 1) := by decide +kernel
theorem dX11_edgesOf_32 : decode cX11_edgesOf 32 = .ok (.ireturn, 1) := by decide +kernel
def rmX11_edgesOf : Room := rmk 8 0 0 193
theorem nX11_edgesOf : nameOk yX11_edgesOf 1 = true := by decide +kernel
def bX11_edgesOf_0 (J : JT) : List Value → Sem
  | [.ref x0, .int x1] =>
    J 1 [.ref x0, .int x1, .int 0, .int 0]
  | _ => no
def bX11_edgesOf_1 (J : JT) : List Value → Sem
  | [.ref x0, .int x1, .int x2, .int x3] =>
    ob 11 x0 (cI SX11_marks [.ref x0] fun v1 =>
    br (v1 ≤ x3)
    (rI x2)
    (ob 11 x0 (cI SX11_isEdge [.ref x0, .int x1, .int x3] fun v2 =>
    br (v2 = 0)
    (J 1 [.ref x0, .int x1, .int x2, .int (x3 + 1)])
    (lI (x2 + 1) fun y2_3 =>
    J 1 [.ref x0, .int x1, .int y2_3, .int (x3 + 1)]))))
  | _ => no
def bX11_edgesOf (J : JT) : JT := fun L a => match L with
  | 0 => bX11_edgesOf_0 J a
  | 1 => bX11_edgesOf_1 J a
  | _ => no
def SX11_edgesOf : ST := mk 4 bX11_edgesOf
def lX11_edgesOf (L : Nat) (a : List Value) : Nat × Nat × Nat × List (Nat × Value) × List Value := match L with
  | 0 => (0, 0, 0, lv_args 0 a, [])
  | 1 => (0, 0, 4, List.zip [0, 1, 2, 3] a, [])
  | _ => (0, 0, 0, [], [])
theorem pX11_edgesOf_0 {Γ : CT} (hC : Ctx Γ "SpiritWallModel" cX11_edgesOf 4 (some .int) rmX11_edgesOf) (hnt : NT Γ) (J : JT) (hJ : ∀ L a, Cor Γ 4 (lX11_edgesOf L a).1 (lX11_edgesOf L a).2.1 (lX11_edgesOf L a).2.2.1 (lX11_edgesOf L a).2.2.2.1 (lX11_edgesOf L a).2.2.2.2 (J L a)) (a : List Value) : Cor Γ 4 0 0 0 (lv_args 0 a) [] (bX11_edgesOf_0 J a) := by
  unfold bX11_edgesOf_0
  split
  · rename_i x0 x1
    refine c_sub [0, 1] rfl (loc' := [(0, .ref x0), (1, .int x1)]) ?_
    refine q_iconst hC dX11_edgesOf_0 rfl ?_
    refine q_istore_nA hC (loc' := [(2, .int 0), (0, .ref x0), (1, .int x1)]) dX11_edgesOf_1 rfl (Nat.le_of_ble_eq_true rfl) rfl ?_
    refine q_iconst hC dX11_edgesOf_2 rfl ?_
    refine q_istore_nA hC (loc' := [(3, .int 0), (2, .int 0), (0, .ref x0), (1, .int x1)]) dX11_edgesOf_3 rfl (Nat.le_of_ble_eq_true rfl) rfl ?_
    exact c_sub [2, 3, 1, 0] rfl (hJ 1 [.ref x0, .int x1, .int 0, .int 0])
  · exact c_no
theorem pX11_edgesOf_1 {Γ : CT} (hC : Ctx Γ "SpiritWallModel" cX11_edgesOf 4 (some .int) rmX11_edgesOf) (hnt : NT Γ) (J : JT) (hJ : ∀ L a, Cor Γ 4 (lX11_edgesOf L a).1 (lX11_edgesOf L a).2.1 (lX11_edgesOf L a).2.2.1 (lX11_edgesOf L a).2.2.2.1 (lX11_edgesOf L a).2.2.2.2 (J L a)) (a : List Value) : Cor Γ 4 0 0 4 (List.zip [0, 1, 2, 3] a) [] (bX11_edgesOf_1 J a) := by
  unfold bX11_edgesOf_1
  split
  · rename_i x0 x1 x2 x3
    refine c_sub [0, 1, 2, 3] rfl (loc' := [(0, .ref x0), (1, .int x1), (2, .int x2), (3, .int x3)]) ?_
    refine q_iload_n hC 3 dX11_edgesOf_4 rfl rfl ?_
    refine q_aload_n hC 0 dX11_edgesOf_5 rfl rfl ?_
    refine q_cVI hC hnt (stk := [.int x3]) (as := []) sX11_marks (ci := 11) (by decide) rfl nX11_marks rfl w_843 w_845 w_846 w_830 w_844 (Nat.le_of_ble_eq_true rfl) dX11_edgesOf_6 rfl (fun v1 => ?_)
    refine q_ic_ge hC 31 dX11_edgesOf_9 rfl ?_ ?_
    · refine q_iload_n hC 2 dX11_edgesOf_31 rfl rfl ?_
      exact q_iret hC dX11_edgesOf_32 (Nat.le_of_ble_eq_true rfl) (Nat.le_of_ble_eq_true rfl)
    · refine q_aload_n hC 0 dX11_edgesOf_12 rfl rfl ?_
      refine q_iload_n hC 1 dX11_edgesOf_13 rfl rfl ?_
      refine q_iload_n hC 3 dX11_edgesOf_14 rfl rfl ?_
      refine q_cVI hC hnt (stk := []) (as := [.int x1, .int x3]) sX11_isEdge (ci := 11) (by decide) rfl nX11_isEdge rfl w_932 w_934 w_935 w_830 w_933 (Nat.le_of_ble_eq_true rfl) dX11_edgesOf_15 rfl (fun v2 => ?_)
      refine q_if_eq hC 25 dX11_edgesOf_18 rfl ?_ ?_
      · refine q_iincA hC (loc' := [(3, .int (x3 + 1)), (0, .ref x0), (1, .int x1), (2, .int x2)]) 3 1 dX11_edgesOf_25 rfl rfl (Nat.le_of_ble_eq_true rfl) rfl ?_
        refine q_goto hC 4 dX11_edgesOf_28 rfl ?_
        exact c_sub [1, 2, 3, 0] rfl (hJ 1 [.ref x0, .int x1, .int x2, .int (x3 + 1)])
      · refine q_iload_n hC 2 dX11_edgesOf_21 rfl rfl ?_
        refine q_iconst hC dX11_edgesOf_22 rfl ?_
        refine q_iadd hC dX11_edgesOf_23 ?_
        refine q_istore_n hC (fun y2_3 => [(2, .int y2_3), (0, .ref x0), (1, .int x1), (3, .int x3)]) dX11_edgesOf_24 rfl (Nat.le_of_ble_eq_true rfl) (fun _ => rfl) (fun y2_3 => ?_)
        refine q_iincA hC (loc' := [(3, .int (x3 + 1)), (2, .int y2_3), (0, .ref x0), (1, .int x1)]) 3 1 dX11_edgesOf_25 rfl rfl (Nat.le_of_ble_eq_true rfl) rfl ?_
        refine q_goto hC 4 dX11_edgesOf_28 rfl ?_
        exact c_sub [2, 3, 1, 0] rfl (hJ 1 [.ref x0, .int x1, .int y2_3, .int (x3 + 1)])
  · exact c_no
theorem sX11_edgesOf : Snd yX11_edgesOf (.code yX11_edgesOf cX11_edgesOf 4 (some .int)) rmX11_edgesOf SX11_edgesOf := by
  refine Snd.of lX11_edgesOf (by decide +kernel) (fun _ => rfl) ?_
  intro Γ hC hnt hnm J hJ L a
  match L with
  | 0 => exact pX11_edgesOf_0 hC hnt J hJ a
  | 1 => exact pX11_edgesOf_1 hC hnt J hJ a
  | L + 2 => exact c_no
/-! SpiritWallModel.sightsOf(I)I -/
theorem dX11_sightsOf_0 : decode cX11_sightsOf 0 = .ok (.iconst 0, 1) := by decide +kernel
theorem dX11_sightsOf_1 : decode cX11_sightsOf 1 = .ok (.istore_n 2, 1) := by decide +kernel
theorem dX11_sightsOf_2 : decode cX11_sightsOf 2 = .ok (.iconst 0, 1) := by decide +kernel
theorem dX11_sightsOf_3 : decode cX11_sightsOf 3 = .ok (.istore_n 3, 1) := by decide +kernel
theorem dX11_sightsOf_4 : decode cX11_sightsOf 4 = .ok (.iload_n 3, 1) := by decide +kernel
theorem dX11_sightsOf_5 : decode cX11_sightsOf 5 = .ok (.aload_n 0, 1) := by decide +kernel
theorem dX11_sightsOf_6 : decode cX11_sightsOf 6 = .ok (.invokevirtual 97, 3) := by decide +kernel
theorem dX11_sightsOf_9 : decode cX11_sightsOf 9 = .ok (.if_icmp .ge 30, 3) := by decide +kernel
theorem dX11_sightsOf_12 : decode cX11_sightsOf 12 = .ok (.aload_n 0, 1) := by decide +kernel
theorem dX11_sightsOf_13 : decode cX11_sightsOf 13 = .ok (.iload_n 3, 1) := by decide +kernel
theorem dX11_sightsOf_14 : decode cX11_sightsOf 14 = .ok (.invokevirtual 141, 3) := by decide +kernel
theorem dX11_sightsOf_17 : decode cX11_sightsOf 17 = .ok (.ifCond .eq 16, 3) := by decide +kernel
theorem dX11_sightsOf_20 : decode cX11_sightsOf 20 = .ok (.aload_n 0, 1) := by decide +kernel
theorem dX11_sightsOf_21 : decode cX11_sightsOf 21 = .ok (.iload_n 3, 1) := by decide +kernel
theorem dX11_sightsOf_22 : decode cX11_sightsOf 22 = .ok (.iload_n 1, 1) := by decide +kernel
theorem dX11_sightsOf_23 : decode cX11_sightsOf 23 = .ok (.invokevirtual 280, 3) := by decide +kernel
theorem dX11_sightsOf_26 : decode cX11_sightsOf 26 = .ok (.ifCond .eq 7, 3) := by decide +kernel
theorem dX11_sightsOf_29 : decode cX11_sightsOf 29 = .ok (.iload_n 2, 1) := by decide +kernel
theorem dX11_sightsOf_30 : decode cX11_sightsOf 30 = .ok (.iconst 1, 1) := by decide +kernel
theorem dX11_sightsOf_31 : decode cX11_sightsOf 31 = .ok (.iadd, 1) := by decide +kernel
theorem dX11_sightsOf_32 : decode cX11_sightsOf 32 = .ok (.istore_n 2, 1) := by decide +kernel
theorem dX11_sightsOf_33 : decode cX11_sightsOf 33 = .ok (.iinc 3 1, 3) := by decide +kernel
theorem dX11_sightsOf_36 : decode cX11_sightsOf 36 = .ok (.goto (-32), 3) := by decide +kernel
theorem dX11_sightsOf_39 : decode cX11_sightsOf 39 = .ok (.iload_n 2, 1) := by decide +kernel
theorem dX11_sightsOf_40 : decode cX11_sightsOf 40 = .ok (.ireturn, 1) := by decide +kernel
def rmX11_sightsOf : Room := rmk 8 0 0 194
theorem nX11_sightsOf : nameOk yX11_sightsOf 1 = true := by decide +kernel
def bX11_sightsOf_0 (J : JT) : List Value → Sem
  | [.ref x0, .int x1] =>
    J 1 [.ref x0, .int x1, .int 0, .int 0]
  | _ => no
def bX11_sightsOf_1 (J : JT) : List Value → Sem
  | [.ref x0, .int x1, .int x2, .int x3] =>
    ob 11 x0 (cI SX11_sights [.ref x0] fun v1 =>
    br (v1 ≤ x3)
    (rI x2)
    (ob 11 x0 (cI SX11_counts [.ref x0, .int x3] fun v2 =>
    br (v2 = 0)
    (J 1 [.ref x0, .int x1, .int x2, .int (x3 + 1)])
    (ob 11 x0 (cI SX11_isSightOf [.ref x0, .int x3, .int x1] fun v3 =>
    br (v3 = 0)
    (J 1 [.ref x0, .int x1, .int x2, .int (x3 + 1)])
    (lI (x2 + 1) fun y2_4 =>
    J 1 [.ref x0, .int x1, .int y2_4, .int (x3 + 1)]))))))
  | _ => no
def bX11_sightsOf (J : JT) : JT := fun L a => match L with
  | 0 => bX11_sightsOf_0 J a
  | 1 => bX11_sightsOf_1 J a
  | _ => no
def SX11_sightsOf : ST := mk 4 bX11_sightsOf
def lX11_sightsOf (L : Nat) (a : List Value) : Nat × Nat × Nat × List (Nat × Value) × List Value := match L with
  | 0 => (0, 0, 0, lv_args 0 a, [])
  | 1 => (0, 0, 4, List.zip [0, 1, 2, 3] a, [])
  | _ => (0, 0, 0, [], [])
theorem pX11_sightsOf_0 {Γ : CT} (hC : Ctx Γ "SpiritWallModel" cX11_sightsOf 4 (some .int) rmX11_sightsOf) (hnt : NT Γ) (J : JT) (hJ : ∀ L a, Cor Γ 4 (lX11_sightsOf L a).1 (lX11_sightsOf L a).2.1 (lX11_sightsOf L a).2.2.1 (lX11_sightsOf L a).2.2.2.1 (lX11_sightsOf L a).2.2.2.2 (J L a)) (a : List Value) : Cor Γ 4 0 0 0 (lv_args 0 a) [] (bX11_sightsOf_0 J a) := by
  unfold bX11_sightsOf_0
  split
  · rename_i x0 x1
    refine c_sub [0, 1] rfl (loc' := [(0, .ref x0), (1, .int x1)]) ?_
    refine q_iconst hC dX11_sightsOf_0 rfl ?_
    refine q_istore_nA hC (loc' := [(2, .int 0), (0, .ref x0), (1, .int x1)]) dX11_sightsOf_1 rfl (Nat.le_of_ble_eq_true rfl) rfl ?_
    refine q_iconst hC dX11_sightsOf_2 rfl ?_
    refine q_istore_nA hC (loc' := [(3, .int 0), (2, .int 0), (0, .ref x0), (1, .int x1)]) dX11_sightsOf_3 rfl (Nat.le_of_ble_eq_true rfl) rfl ?_
    exact c_sub [2, 3, 1, 0] rfl (hJ 1 [.ref x0, .int x1, .int 0, .int 0])
  · exact c_no
theorem pX11_sightsOf_1 {Γ : CT} (hC : Ctx Γ "SpiritWallModel" cX11_sightsOf 4 (some .int) rmX11_sightsOf) (hnt : NT Γ) (J : JT) (hJ : ∀ L a, Cor Γ 4 (lX11_sightsOf L a).1 (lX11_sightsOf L a).2.1 (lX11_sightsOf L a).2.2.1 (lX11_sightsOf L a).2.2.2.1 (lX11_sightsOf L a).2.2.2.2 (J L a)) (a : List Value) : Cor Γ 4 0 0 4 (List.zip [0, 1, 2, 3] a) [] (bX11_sightsOf_1 J a) := by
  unfold bX11_sightsOf_1
  split
  · rename_i x0 x1 x2 x3
    refine c_sub [0, 1, 2, 3] rfl (loc' := [(0, .ref x0), (1, .int x1), (2, .int x2), (3, .int x3)]) ?_
    refine q_iload_n hC 3 dX11_sightsOf_4 rfl rfl ?_
    refine q_aload_n hC 0 dX11_sightsOf_5 rfl rfl ?_
    refine q_cVI hC hnt (stk := [.int x3]) (as := []) sX11_sights (ci := 11) (by decide) rfl nX11_sights rfl w_854 w_856 w_857 w_830 w_855 (Nat.le_of_ble_eq_true rfl) dX11_sightsOf_6 rfl (fun v1 => ?_)
    refine q_ic_ge hC 39 dX11_sightsOf_9 rfl ?_ ?_
    · refine q_iload_n hC 2 dX11_sightsOf_39 rfl rfl ?_
      exact q_iret hC dX11_sightsOf_40 (Nat.le_of_ble_eq_true rfl) (Nat.le_of_ble_eq_true rfl)
    · refine q_aload_n hC 0 dX11_sightsOf_12 rfl rfl ?_
      refine q_iload_n hC 3 dX11_sightsOf_13 rfl rfl ?_
      refine q_cVI hC hnt (stk := []) (as := [.int x3]) sX11_counts (ci := 11) (by decide) rfl nX11_counts rfl w_895 w_897 w_898 w_830 w_896 (Nat.le_of_ble_eq_true rfl) dX11_sightsOf_14 rfl (fun v2 => ?_)
      refine q_if_eq hC 33 dX11_sightsOf_17 rfl ?_ ?_
      · refine q_iincA hC (loc' := [(3, .int (x3 + 1)), (0, .ref x0), (1, .int x1), (2, .int x2)]) 3 1 dX11_sightsOf_33 rfl rfl (Nat.le_of_ble_eq_true rfl) rfl ?_
        refine q_goto hC 4 dX11_sightsOf_36 rfl ?_
        exact c_sub [1, 2, 3, 0] rfl (hJ 1 [.ref x0, .int x1, .int x2, .int (x3 + 1)])
      · refine q_aload_n hC 0 dX11_sightsOf_20 rfl rfl ?_
        refine q_iload_n hC 3 dX11_sightsOf_21 rfl rfl ?_
        refine q_iload_n hC 1 dX11_sightsOf_22 rfl rfl ?_
        refine q_cVI hC hnt (stk := []) (as := [.int x3, .int x1]) sX11_isSightOf (ci := 11) (by decide) rfl nX11_isSightOf rfl w_1061 w_1063 w_1064 w_830 w_1062 (Nat.le_of_ble_eq_true rfl) dX11_sightsOf_23 rfl (fun v3 => ?_)
        refine q_if_eq hC 33 dX11_sightsOf_26 rfl ?_ ?_
        · refine q_iincA hC (loc' := [(3, .int (x3 + 1)), (0, .ref x0), (1, .int x1), (2, .int x2)]) 3 1 dX11_sightsOf_33 rfl rfl (Nat.le_of_ble_eq_true rfl) rfl ?_
          refine q_goto hC 4 dX11_sightsOf_36 rfl ?_
          exact c_sub [1, 2, 3, 0] rfl (hJ 1 [.ref x0, .int x1, .int x2, .int (x3 + 1)])
        · refine q_iload_n hC 2 dX11_sightsOf_29 rfl rfl ?_
          refine q_iconst hC dX11_sightsOf_30 rfl ?_
          refine q_iadd hC dX11_sightsOf_31 ?_
          refine q_istore_n hC (fun y2_4 => [(2, .int y2_4), (0, .ref x0), (1, .int x1), (3, .int x3)]) dX11_sightsOf_32 rfl (Nat.le_of_ble_eq_true rfl) (fun _ => rfl) (fun y2_4 => ?_)
          refine q_iincA hC (loc' := [(3, .int (x3 + 1)), (2, .int y2_4), (0, .ref x0), (1, .int x1)]) 3 1 dX11_sightsOf_33 rfl rfl (Nat.le_of_ble_eq_true rfl) rfl ?_
          refine q_goto hC 4 dX11_sightsOf_36 rfl ?_
          exact c_sub [2, 3, 1, 0] rfl (hJ 1 [.ref x0, .int x1, .int y2_4, .int (x3 + 1)])
  · exact c_no
theorem sX11_sightsOf : Snd yX11_sightsOf (.code yX11_sightsOf cX11_sightsOf 4 (some .int)) rmX11_sightsOf SX11_sightsOf := by
  refine Snd.of lX11_sightsOf (by decide +kernel) (fun _ => rfl) ?_
  intro Γ hC hnt hnm J hJ L a
  match L with
  | 0 => exact pX11_sightsOf_0 hC hnt J hJ a
  | 1 => exact pX11_sightsOf_1 hC hnt J hJ a
  | L + 2 => exact c_no
/-! SpiritWallModel.mark(II)I -/
theorem dX11_mark_0 : decode cX11_mark 0 = .ok (.aload_n 0, 1) := by decide +kernel
theorem dX11_mark_1 : decode cX11_mark 1 = .ok (.aload_n 0, 1) := by decide +kernel
theorem dX11_mark_2 : decode cX11_mark 2 = .ok (.iload_n 1, 1) := by decide +kernel
theorem dX11_mark_3 : decode cX11_mark 3 = .ok (.invokevirtual 93, 3) := by decide +kernel
theorem dX11_mark_6 : decode cX11_mark 6 = .ok (.invokevirtual 77, 3) := by decide +kernel
theorem dX11_mark_9 : decode cX11_mark 9 = .ok (.ifCond .eq 20, 3) := by decide +kernel
theorem dX11_mark_12 : decode cX11_mark 12 = .ok (.aload_n 0, 1) := by decide +kernel
theorem dX11_mark_13 : decode cX11_mark 13 = .ok (.iload_n 2, 1) := by decide +kernel
theorem dX11_mark_14 : decode cX11_mark 14 = .ok (.i2l, 1) := by decide +kernel
theorem dX11_mark_15 : decode cX11_mark 15 = .ok (.lconst 0, 1) := by decide +kernel
theorem dX11_mark_16 : decode cX11_mark 16 = .ok (.ldc2_w 275, 3) := by decide +kernel
theorem dX11_mark_19 : decode cX11_mark 19 = .ok (.invokestatic 89, 3) := by decide +kernel
theorem dX11_mark_22 : decode cX11_mark 22 = .ok (.iconst 2, 1) := by decide +kernel
theorem dX11_mark_23 : decode cX11_mark 23 = .ok (.invokevirtual 283, 3) := by decide +kernel
theorem dX11_mark_26 : decode cX11_mark 26 = .ok (.ifCond .ne 5, 3) := by decide +kernel
theorem dX11_mark_29 : decode cX11_mark 29 = .ok (.iconst 0, 1) := by decide +kernel
theorem dX11_mark_30 : decode cX11_mark 30 = .ok (.ireturn, 1) := by decide +kernel
theorem dX11_mark_31 : decode cX11_mark 31 = .ok (.aload_n 0, 1) := by decide +kernel
theorem dX11_mark_32 : decode cX11_mark 32 = .ok (.invokevirtual 244, 3) := by decide +kernel
theorem dX11_mark_35 : decode cX11_mark 35 = .ok (.iload_n 2, 1) := by decide +kernel
theorem dX11_mark_36 : decode cX11_mark 36 = .ok (.tableswitch 58 0 3 #[32, 39, 46, 52], 32) := by decide +kernel
theorem dX11_mark_68 : decode cX11_mark 68 = .ok (.aload_n 0, 1) := by decide +kernel
theorem dX11_mark_69 : decode cX11_mark 69 = .ok (.iload_n 1, 1) := by decide +kernel
theorem dX11_mark_70 : decode cX11_mark 70 = .ok (.iconst 1, 1) := by decide +kernel
theorem dX11_mark_71 : decode cX11_mark 71 = .ok (.invokevirtual 104, 3) := by decide +kernel
theorem dX11_mark_74 : decode cX11_mark 74 = .ok (.ireturn, 1) := by decide +kernel
theorem dX11_mark_75 : decode cX11_mark 75 = .ok (.aload_n 0, 1) := by decide +kernel
theorem dX11_mark_76 : decode cX11_mark 76 = .ok (.iload_n 1, 1) := by decide +kernel
theorem dX11_mark_77 : decode cX11_mark 77 = .ok (.iconst 2, 1) := by decide +kernel
theorem dX11_mark_78 : decode cX11_mark 78 = .ok (.invokevirtual 104, 3) := by decide +kernel
theorem dX11_mark_81 : decode cX11_mark 81 = .ok (.ireturn, 1) := by decide +kernel
theorem dX11_mark_82 : decode cX11_mark 82 = .ok (.aload_n 0, 1) := by decide +kernel
theorem dX11_mark_83 : decode cX11_mark 83 = .ok (.iload_n 1, 1) := by decide +kernel
theorem dX11_mark_84 : decode cX11_mark 84 = .ok (.invokevirtual 287, 3) := by decide +kernel
theorem dX11_mark_87 : decode cX11_mark 87 = .ok (.ireturn, 1) := by decide +kernel
theorem dX11_mark_88 : decode cX11_mark 88 = .ok (.aload_n 0, 1) := by decide +kernel
theorem dX11_mark_89 : decode cX11_mark 89 = .ok (.iload_n 1, 1) := by decide +kernel
theorem dX11_mark_90 : decode cX11_mark 90 = .ok (.invokevirtual 290, 3) := by decide +kernel
theorem dX11_mark_93 : decode cX11_mark 93 = .ok (.ireturn, 1) := by decide +kernel
theorem dX11_mark_94 : decode cX11_mark 94 = .ok (.aload_n 0, 1) := by decide +kernel
theorem dX11_mark_95 : decode cX11_mark 95 = .ok (.getfield 44, 3) := by decide +kernel
theorem dX11_mark_98 : decode cX11_mark 98 = .ok (.iload_n 1, 1) := by decide +kernel
theorem dX11_mark_99 : decode cX11_mark 99 = .ok (.iaload, 1) := by decide +kernel
theorem dX11_mark_100 : decode cX11_mark 100 = .ok (.ireturn, 1) := by decide +kernel
def rmX11_mark : Room := rmk 15 0 0 357
theorem nX11_mark : nameOk yX11_mark 2 = true := by decide +kernel
def bX11_mark_0 (J : JT) : List Value → Sem
  | [.ref x0, .int x1, .int x2] =>
    ob 11 x0 (cI SX11_isMark [.ref x0, .int x1] fun v1 =>
    ob 11 x0 (cI SX11_is [.ref x0, .int v1] fun v2 =>
    br (v2 = 0)
    (rI 0)
    (cI SX11_isIn [.long (x2.toInt64), .long 0, .long 4] fun v3 =>
    ob 11 x0 (cI SX11_may [.ref x0, .int v3, .int 2] fun v4 =>
    br (v4 = 0)
    (rI 0)
    (ob 11 x0 (cV SX11_reckons [.ref x0] <|
    sw x2 (0) 4 fun k => match k with
    | 0 => (ob 11 x0 (cI SX11_of [.ref x0, .int x1, .int 1] fun v5 =>
    rI v5))
    | 1 => (ob 11 x0 (cI SX11_of [.ref x0, .int x1, .int 2] fun v6 =>
    rI v6))
    | 2 => (ob 11 x0 (cI SX11_edgesOf [.ref x0, .int x1] fun v7 =>
    rI v7))
    | 3 => (ob 11 x0 (cI SX11_sightsOf [.ref x0, .int x1] fun v8 =>
    rI v8))
    | _ => (gR 11 15 x0 fun r9 =>
    aI r9 x1 fun v10 =>
    rI v10)))))))
  | _ => no
def bX11_mark (J : JT) : JT := fun L a => match L with
  | 0 => bX11_mark_0 J a
  | _ => no
def SX11_mark : ST := mk 3 bX11_mark
def lX11_mark (L : Nat) (a : List Value) : Nat × Nat × Nat × List (Nat × Value) × List Value := match L with
  | 0 => (0, 0, 0, lv_args 0 a, [])
  | _ => (0, 0, 0, [], [])
theorem pX11_mark_0 {Γ : CT} (hC : Ctx Γ "SpiritWallModel" cX11_mark 3 (some .int) rmX11_mark) (hnt : NT Γ) (J : JT) (hJ : ∀ L a, Cor Γ 3 (lX11_mark L a).1 (lX11_mark L a).2.1 (lX11_mark L a).2.2.1 (lX11_mark L a).2.2.2.1 (lX11_mark L a).2.2.2.2 (J L a)) (a : List Value) : Cor Γ 3 0 0 0 (lv_args 0 a) [] (bX11_mark_0 J a) := by
  unfold bX11_mark_0
  split
  · rename_i x0 x1 x2
    refine c_sub [0, 1, 2] rfl (loc' := [(0, .ref x0), (1, .int x1), (2, .int x2)]) ?_
    refine q_aload_n hC 0 dX11_mark_0 rfl rfl ?_
    refine q_aload_n hC 0 dX11_mark_1 rfl rfl ?_
    refine q_iload_n hC 1 dX11_mark_2 rfl rfl ?_
    refine q_cVI hC hnt (stk := [.ref x0]) (as := [.int x1]) sX11_isMark (ci := 11) (by decide) rfl nX11_isMark rfl w_850 w_852 w_853 w_830 w_851 (Nat.le_of_ble_eq_true rfl) dX11_mark_3 rfl (fun v1 => ?_)
    refine q_cVI hC hnt (stk := []) (as := [.int v1]) sX11_is (ci := 11) (by decide) rfl nX11_is rfl w_838 w_840 w_841 w_830 w_839 (Nat.le_of_ble_eq_true rfl) dX11_mark_6 rfl (fun v2 => ?_)
    refine q_if_eq hC 29 dX11_mark_9 rfl ?_ ?_
    · refine q_iconst hC dX11_mark_29 rfl ?_
      exact q_iret hC dX11_mark_30 (Nat.le_of_ble_eq_true rfl) (Nat.le_of_ble_eq_true rfl)
    · refine q_aload_n hC 0 dX11_mark_12 rfl rfl ?_
      refine q_iload_n hC 2 dX11_mark_13 rfl rfl ?_
      refine q_i2l hC dX11_mark_14 ?_
      refine q_lconst hC (v := 0) dX11_mark_15 rfl ?_
      refine q_ldc2 hC w_1056 dX11_mark_16 ?_
      refine q_cSI hC hnt (stk := [.ref x0]) (as := [.long (x2.toInt64), .long 0, .long 4]) sX11_isIn nX11_isIn rfl w_847 w_849 w_830 w_848 (Nat.le_of_ble_eq_true rfl) dX11_mark_19 rfl (fun v3 => ?_)
      refine q_iconst hC dX11_mark_22 rfl ?_
      refine q_cVI hC hnt (stk := []) (as := [.int v3, .int 2]) sX11_may (ci := 11) (by decide) rfl nX11_may rfl w_1065 w_1067 w_1068 w_830 w_1066 (Nat.le_of_ble_eq_true rfl) dX11_mark_23 rfl (fun v4 => ?_)
      refine q_if_ne hC 31 dX11_mark_26 rfl ?_ ?_
      · refine q_aload_n hC 0 dX11_mark_31 rfl rfl ?_
        refine q_cVV hC hnt (stk := []) (as := []) sX11_reckons (ci := 11) (by decide) rfl nX11_reckons rfl w_1016 w_1018 w_1019 w_830 w_1017 (Nat.le_of_ble_eq_true rfl) dX11_mark_32 rfl ?_
        refine q_iload_n hC 2 dX11_mark_35 rfl rfl ?_
        refine q_sw hC (0) 4 (fun k => ([68, 75, 82, 88] : List Nat).getD k 94) dX11_mark_36 rfl rfl (by decide +kernel) rfl ?_
        intro i hi
        match i, hi with
        | 0, _ =>
          refine c_pc (pc' := 68) rfl ?_
          refine q_aload_n hC 0 dX11_mark_68 rfl rfl ?_
          refine q_iload_n hC 1 dX11_mark_69 rfl rfl ?_
          refine q_iconst hC dX11_mark_70 rfl ?_
          refine q_cVI hC hnt (stk := []) (as := [.int x1, .int 1]) sX11_of (ci := 11) (by decide) rfl nX11_of rfl w_862 w_864 w_865 w_830 w_863 (Nat.le_of_ble_eq_true rfl) dX11_mark_71 rfl (fun v5 => ?_)
          exact q_iret hC dX11_mark_74 (Nat.le_of_ble_eq_true rfl) (Nat.le_of_ble_eq_true rfl)
        | 1, _ =>
          refine c_pc (pc' := 75) rfl ?_
          refine q_aload_n hC 0 dX11_mark_75 rfl rfl ?_
          refine q_iload_n hC 1 dX11_mark_76 rfl rfl ?_
          refine q_iconst hC dX11_mark_77 rfl ?_
          refine q_cVI hC hnt (stk := []) (as := [.int x1, .int 2]) sX11_of (ci := 11) (by decide) rfl nX11_of rfl w_862 w_864 w_865 w_830 w_863 (Nat.le_of_ble_eq_true rfl) dX11_mark_78 rfl (fun v6 => ?_)
          exact q_iret hC dX11_mark_81 (Nat.le_of_ble_eq_true rfl) (Nat.le_of_ble_eq_true rfl)
        | 2, _ =>
          refine c_pc (pc' := 82) rfl ?_
          refine q_aload_n hC 0 dX11_mark_82 rfl rfl ?_
          refine q_iload_n hC 1 dX11_mark_83 rfl rfl ?_
          refine q_cVI hC hnt (stk := []) (as := [.int x1]) sX11_edgesOf (ci := 11) (by decide) rfl nX11_edgesOf rfl w_1069 w_1071 w_1072 w_830 w_1070 (Nat.le_of_ble_eq_true rfl) dX11_mark_84 rfl (fun v7 => ?_)
          exact q_iret hC dX11_mark_87 (Nat.le_of_ble_eq_true rfl) (Nat.le_of_ble_eq_true rfl)
        | 3, _ =>
          refine c_pc (pc' := 88) rfl ?_
          refine q_aload_n hC 0 dX11_mark_88 rfl rfl ?_
          refine q_iload_n hC 1 dX11_mark_89 rfl rfl ?_
          refine q_cVI hC hnt (stk := []) (as := [.int x1]) sX11_sightsOf (ci := 11) (by decide) rfl nX11_sightsOf rfl w_1073 w_1075 w_1076 w_830 w_1074 (Nat.le_of_ble_eq_true rfl) dX11_mark_90 rfl (fun v8 => ?_)
          exact q_iret hC dX11_mark_93 (Nat.le_of_ble_eq_true rfl) (Nat.le_of_ble_eq_true rfl)
        | 4, _ =>
          refine c_pc (pc' := 94) rfl ?_
          refine q_aload_n hC 0 dX11_mark_94 rfl rfl ?_
          refine q_getR hC (by decide) (by decide) rfl w_820 dX11_mark_95 (fun r9 => ?_)
          refine q_iload_n hC 1 dX11_mark_98 rfl rfl ?_
          refine q_iald hC dX11_mark_99 (fun v10 => ?_)
          exact q_iret hC dX11_mark_100 (Nat.le_of_ble_eq_true rfl) (Nat.le_of_ble_eq_true rfl)
        | k + 5, h => exact absurd h (by omega)
      · refine q_iconst hC dX11_mark_29 rfl ?_
        exact q_iret hC dX11_mark_30 (Nat.le_of_ble_eq_true rfl) (Nat.le_of_ble_eq_true rfl)
  · exact c_no
theorem sX11_mark : Snd yX11_mark (.code yX11_mark cX11_mark 3 (some .int)) rmX11_mark SX11_mark := by
  refine Snd.of lX11_mark (by decide +kernel) (fun _ => rfl) ?_
  intro Γ hC hnt hnm J hJ L a
  match L with
  | 0 => exact pX11_mark_0 hC hnt J hJ a
  | L + 1 => exact c_no
/-! SpiritWallModel.heightOf(I)I -/
theorem dX11_heightOf_0 : decode cX11_heightOf 0 = .ok (.aload_n 0, 1) := by decide +kernel
theorem dX11_heightOf_1 : decode cX11_heightOf 1 = .ok (.iload_n 1, 1) := by decide +kernel
theorem dX11_heightOf_2 : decode cX11_heightOf 2 = .ok (.invokevirtual 241, 3) := by decide +kernel
theorem dX11_heightOf_5 : decode cX11_heightOf 5 = .ok (.ifCond .eq 12, 3) := by decide +kernel
theorem dX11_heightOf_8 : decode cX11_heightOf 8 = .ok (.aload_n 0, 1) := by decide +kernel
theorem dX11_heightOf_9 : decode cX11_heightOf 9 = .ok (.iload_n 1, 1) := by decide +kernel
theorem dX11_heightOf_10 : decode cX11_heightOf 10 = .ok (.iconst 4, 1) := by decide +kernel
theorem dX11_heightOf_11 : decode cX11_heightOf 11 = .ok (.invokevirtual 104, 3) := by decide +kernel
theorem dX11_heightOf_14 : decode cX11_heightOf 14 = .ok (.goto 5, 3) := by decide +kernel
theorem dX11_heightOf_17 : decode cX11_heightOf 17 = .ok (.ldc 140, 2) := by decide +kernel
theorem dX11_heightOf_19 : decode cX11_heightOf 19 = .ok (.ireturn, 1) := by decide +kernel
def rmX11_heightOf : Room := rmk 8 0 0 193
theorem nX11_heightOf : nameOk yX11_heightOf 1 = true := by decide +kernel
def bX11_heightOf_0 (J : JT) : List Value → Sem
  | [.ref x0, .int x1] =>
    ob 11 x0 (cI SX11_hasHeight [.ref x0, .int x1] fun v1 =>
    br (v1 = 0)
    (rI (-10000000))
    (ob 11 x0 (cI SX11_of [.ref x0, .int x1, .int 4] fun v2 =>
    rI v2)))
  | _ => no
def bX11_heightOf (J : JT) : JT := fun L a => match L with
  | 0 => bX11_heightOf_0 J a
  | _ => no
def SX11_heightOf : ST := mk 2 bX11_heightOf
def lX11_heightOf (L : Nat) (a : List Value) : Nat × Nat × Nat × List (Nat × Value) × List Value := match L with
  | 0 => (0, 0, 0, lv_args 0 a, [])
  | _ => (0, 0, 0, [], [])
theorem pX11_heightOf_0 {Γ : CT} (hC : Ctx Γ "SpiritWallModel" cX11_heightOf 2 (some .int) rmX11_heightOf) (hnt : NT Γ) (J : JT) (hJ : ∀ L a, Cor Γ 2 (lX11_heightOf L a).1 (lX11_heightOf L a).2.1 (lX11_heightOf L a).2.2.1 (lX11_heightOf L a).2.2.2.1 (lX11_heightOf L a).2.2.2.2 (J L a)) (a : List Value) : Cor Γ 2 0 0 0 (lv_args 0 a) [] (bX11_heightOf_0 J a) := by
  unfold bX11_heightOf_0
  split
  · rename_i x0 x1
    refine c_sub [0, 1] rfl (loc' := [(0, .ref x0), (1, .int x1)]) ?_
    refine q_aload_n hC 0 dX11_heightOf_0 rfl rfl ?_
    refine q_iload_n hC 1 dX11_heightOf_1 rfl rfl ?_
    refine q_cVI hC hnt (stk := []) (as := [.int x1]) sX11_hasHeight (ci := 11) (by decide) rfl nX11_hasHeight rfl w_1012 w_1014 w_1015 w_830 w_1013 (Nat.le_of_ble_eq_true rfl) dX11_heightOf_2 rfl (fun v1 => ?_)
    refine q_if_eq hC 17 dX11_heightOf_5 rfl ?_ ?_
    · refine q_ldc hC w_889 dX11_heightOf_17 ?_
      exact q_iret hC dX11_heightOf_19 (Nat.le_of_ble_eq_true rfl) (Nat.le_of_ble_eq_true rfl)
    · refine q_aload_n hC 0 dX11_heightOf_8 rfl rfl ?_
      refine q_iload_n hC 1 dX11_heightOf_9 rfl rfl ?_
      refine q_iconst hC dX11_heightOf_10 rfl ?_
      refine q_cVI hC hnt (stk := []) (as := [.int x1, .int 4]) sX11_of (ci := 11) (by decide) rfl nX11_of rfl w_862 w_864 w_865 w_830 w_863 (Nat.le_of_ble_eq_true rfl) dX11_heightOf_11 rfl (fun v2 => ?_)
      refine q_goto hC 19 dX11_heightOf_14 rfl ?_
      exact q_iret hC dX11_heightOf_19 (Nat.le_of_ble_eq_true rfl) (Nat.le_of_ble_eq_true rfl)
  · exact c_no
theorem sX11_heightOf : Snd yX11_heightOf (.code yX11_heightOf cX11_heightOf 2 (some .int)) rmX11_heightOf SX11_heightOf := by
  refine Snd.of lX11_heightOf (by decide +kernel) (fun _ => rfl) ?_
  intro Γ hC hnt hnm J hJ L a
  match L with
  | 0 => exact pX11_heightOf_0 hC hnt J hJ a
  | L + 1 => exact c_no
/-! SpiritWallModel.height(I)I -/
theorem dX11_height_0 : decode cX11_height 0 = .ok (.aload_n 0, 1) := by decide +kernel
theorem dX11_height_1 : decode cX11_height 1 = .ok (.aload_n 0, 1) := by decide +kernel
theorem dX11_height_2 : decode cX11_height 2 = .ok (.iload_n 1, 1) := by decide +kernel
theorem dX11_height_3 : decode cX11_height 3 = .ok (.invokevirtual 93, 3) := by decide +kernel
theorem dX11_height_6 : decode cX11_height 6 = .ok (.invokevirtual 77, 3) := by decide +kernel
theorem dX11_height_9 : decode cX11_height 9 = .ok (.ifCond .eq 11, 3) := by decide +kernel
theorem dX11_height_12 : decode cX11_height 12 = .ok (.aload_n 0, 1) := by decide +kernel
theorem dX11_height_13 : decode cX11_height 13 = .ok (.iload_n 1, 1) := by decide +kernel
theorem dX11_height_14 : decode cX11_height 14 = .ok (.invokevirtual 293, 3) := by decide +kernel
theorem dX11_height_17 : decode cX11_height 17 = .ok (.goto 4, 3) := by decide +kernel
theorem dX11_height_20 : decode cX11_height 20 = .ok (.iconst 0, 1) := by decide +kernel
theorem dX11_height_21 : decode cX11_height 21 = .ok (.ireturn, 1) := by decide +kernel
def rmX11_height : Room := rmk 9 0 0 214
theorem nX11_height : nameOk yX11_height 1 = true := by decide +kernel
def bX11_height_0 (J : JT) : List Value → Sem
  | [.ref x0, .int x1] =>
    ob 11 x0 (cI SX11_isMark [.ref x0, .int x1] fun v1 =>
    ob 11 x0 (cI SX11_is [.ref x0, .int v1] fun v2 =>
    br (v2 = 0)
    (rI 0)
    (ob 11 x0 (cI SX11_heightOf [.ref x0, .int x1] fun v3 =>
    rI v3))))
  | _ => no
def bX11_height (J : JT) : JT := fun L a => match L with
  | 0 => bX11_height_0 J a
  | _ => no
def SX11_height : ST := mk 2 bX11_height
def lX11_height (L : Nat) (a : List Value) : Nat × Nat × Nat × List (Nat × Value) × List Value := match L with
  | 0 => (0, 0, 0, lv_args 0 a, [])
  | _ => (0, 0, 0, [], [])
theorem pX11_height_0 {Γ : CT} (hC : Ctx Γ "SpiritWallModel" cX11_height 2 (some .int) rmX11_height) (hnt : NT Γ) (J : JT) (hJ : ∀ L a, Cor Γ 2 (lX11_height L a).1 (lX11_height L a).2.1 (lX11_height L a).2.2.1 (lX11_height L a).2.2.2.1 (lX11_height L a).2.2.2.2 (J L a)) (a : List Value) : Cor Γ 2 0 0 0 (lv_args 0 a) [] (bX11_height_0 J a) := by
  unfold bX11_height_0
  split
  · rename_i x0 x1
    refine c_sub [0, 1] rfl (loc' := [(0, .ref x0), (1, .int x1)]) ?_
    refine q_aload_n hC 0 dX11_height_0 rfl rfl ?_
    refine q_aload_n hC 0 dX11_height_1 rfl rfl ?_
    refine q_iload_n hC 1 dX11_height_2 rfl rfl ?_
    refine q_cVI hC hnt (stk := [.ref x0]) (as := [.int x1]) sX11_isMark (ci := 11) (by decide) rfl nX11_isMark rfl w_850 w_852 w_853 w_830 w_851 (Nat.le_of_ble_eq_true rfl) dX11_height_3 rfl (fun v1 => ?_)
    refine q_cVI hC hnt (stk := []) (as := [.int v1]) sX11_is (ci := 11) (by decide) rfl nX11_is rfl w_838 w_840 w_841 w_830 w_839 (Nat.le_of_ble_eq_true rfl) dX11_height_6 rfl (fun v2 => ?_)
    refine q_if_eq hC 20 dX11_height_9 rfl ?_ ?_
    · refine q_iconst hC dX11_height_20 rfl ?_
      exact q_iret hC dX11_height_21 (Nat.le_of_ble_eq_true rfl) (Nat.le_of_ble_eq_true rfl)
    · refine q_aload_n hC 0 dX11_height_12 rfl rfl ?_
      refine q_iload_n hC 1 dX11_height_13 rfl rfl ?_
      refine q_cVI hC hnt (stk := []) (as := [.int x1]) sX11_heightOf (ci := 11) (by decide) rfl nX11_heightOf rfl w_1077 w_1079 w_1080 w_830 w_1078 (Nat.le_of_ble_eq_true rfl) dX11_height_14 rfl (fun v3 => ?_)
      refine q_goto hC 21 dX11_height_17 rfl ?_
      exact q_iret hC dX11_height_21 (Nat.le_of_ble_eq_true rfl) (Nat.le_of_ble_eq_true rfl)
  · exact c_no
theorem sX11_height : Snd yX11_height (.code yX11_height cX11_height 2 (some .int)) rmX11_height SX11_height := by
  refine Snd.of lX11_height (by decide +kernel) (fun _ => rfl) ?_
  intro Γ hC hnt hnm J hJ L a
  match L with
  | 0 => exact pX11_height_0 hC hnt J hJ a
  | L + 1 => exact c_no
/-! SpiritWallModel.whyNone(I)I -/
theorem dX11_whyNone_0 : decode cX11_whyNone 0 = .ok (.aload_n 0, 1) := by decide +kernel
theorem dX11_whyNone_1 : decode cX11_whyNone 1 = .ok (.aload_n 0, 1) := by decide +kernel
theorem dX11_whyNone_2 : decode cX11_whyNone 2 = .ok (.iload_n 1, 1) := by decide +kernel
theorem dX11_whyNone_3 : decode cX11_whyNone 3 = .ok (.invokevirtual 93, 3) := by decide +kernel
theorem dX11_whyNone_6 : decode cX11_whyNone 6 = .ok (.invokevirtual 77, 3) := by decide +kernel
theorem dX11_whyNone_9 : decode cX11_whyNone 9 = .ok (.ifCond .ne 5, 3) := by decide +kernel
theorem dX11_whyNone_12 : decode cX11_whyNone 12 = .ok (.iconst 0, 1) := by decide +kernel
theorem dX11_whyNone_13 : decode cX11_whyNone 13 = .ok (.ireturn, 1) := by decide +kernel
theorem dX11_whyNone_14 : decode cX11_whyNone 14 = .ok (.aload_n 0, 1) := by decide +kernel
theorem dX11_whyNone_15 : decode cX11_whyNone 15 = .ok (.invokevirtual 244, 3) := by decide +kernel
theorem dX11_whyNone_18 : decode cX11_whyNone 18 = .ok (.iconst 0, 1) := by decide +kernel
theorem dX11_whyNone_19 : decode cX11_whyNone 19 = .ok (.istore_n 2, 1) := by decide +kernel
theorem dX11_whyNone_20 : decode cX11_whyNone 20 = .ok (.iload_n 2, 1) := by decide +kernel
theorem dX11_whyNone_21 : decode cX11_whyNone 21 = .ok (.aload_n 0, 1) := by decide +kernel
theorem dX11_whyNone_22 : decode cX11_whyNone 22 = .ok (.invokevirtual 85, 3) := by decide +kernel
theorem dX11_whyNone_25 : decode cX11_whyNone 25 = .ok (.if_icmp .ge 34, 3) := by decide +kernel
theorem dX11_whyNone_28 : decode cX11_whyNone 28 = .ok (.aload_n 0, 1) := by decide +kernel
theorem dX11_whyNone_29 : decode cX11_whyNone 29 = .ok (.iload_n 2, 1) := by decide +kernel
theorem dX11_whyNone_30 : decode cX11_whyNone 30 = .ok (.invokevirtual 254, 3) := by decide +kernel
theorem dX11_whyNone_33 : decode cX11_whyNone 33 = .ok (.ifCond .eq 20, 3) := by decide +kernel
theorem dX11_whyNone_36 : decode cX11_whyNone 36 = .ok (.aload_n 0, 1) := by decide +kernel
theorem dX11_whyNone_37 : decode cX11_whyNone 37 = .ok (.getfield 44, 3) := by decide +kernel
theorem dX11_whyNone_40 : decode cX11_whyNone 40 = .ok (.iload_n 2, 1) := by decide +kernel
theorem dX11_whyNone_41 : decode cX11_whyNone 41 = .ok (.iaload, 1) := by decide +kernel
theorem dX11_whyNone_42 : decode cX11_whyNone 42 = .ok (.aload_n 0, 1) := by decide +kernel
theorem dX11_whyNone_43 : decode cX11_whyNone 43 = .ok (.getfield 44, 3) := by decide +kernel
theorem dX11_whyNone_46 : decode cX11_whyNone 46 = .ok (.iload_n 1, 1) := by decide +kernel
theorem dX11_whyNone_47 : decode cX11_whyNone 47 = .ok (.iaload, 1) := by decide +kernel
theorem dX11_whyNone_48 : decode cX11_whyNone 48 = .ok (.if_icmp .ne 5, 3) := by decide +kernel
theorem dX11_whyNone_51 : decode cX11_whyNone 51 = .ok (.iconst 0, 1) := by decide +kernel
theorem dX11_whyNone_52 : decode cX11_whyNone 52 = .ok (.ireturn, 1) := by decide +kernel
theorem dX11_whyNone_53 : decode cX11_whyNone 53 = .ok (.iinc 2 1, 3) := by decide +kernel
theorem dX11_whyNone_56 : decode cX11_whyNone 56 = .ok (.goto (-36), 3) := by decide +kernel
theorem dX11_whyNone_59 : decode cX11_whyNone 59 = .ok (.iconst 1, 1) := by decide +kernel
theorem dX11_whyNone_60 : decode cX11_whyNone 60 = .ok (.istore_n 2, 1) := by decide +kernel
theorem dX11_whyNone_61 : decode cX11_whyNone 61 = .ok (.iconst 0, 1) := by decide +kernel
theorem dX11_whyNone_62 : decode cX11_whyNone 62 = .ok (.istore_n 3, 1) := by decide +kernel
theorem dX11_whyNone_63 : decode cX11_whyNone 63 = .ok (.iload_n 3, 1) := by decide +kernel
theorem dX11_whyNone_64 : decode cX11_whyNone 64 = .ok (.aload_n 0, 1) := by decide +kernel
theorem dX11_whyNone_65 : decode cX11_whyNone 65 = .ok (.invokevirtual 97, 3) := by decide +kernel
theorem dX11_whyNone_68 : decode cX11_whyNone 68 = .ok (.if_icmp .ge 37, 3) := by decide +kernel
theorem dX11_whyNone_71 : decode cX11_whyNone 71 = .ok (.aload_n 0, 1) := by decide +kernel
theorem dX11_whyNone_72 : decode cX11_whyNone 72 = .ok (.iload_n 3, 1) := by decide +kernel
theorem dX11_whyNone_73 : decode cX11_whyNone 73 = .ok (.iload_n 1, 1) := by decide +kernel
theorem dX11_whyNone_74 : decode cX11_whyNone 74 = .ok (.invokevirtual 280, 3) := by decide +kernel
theorem dX11_whyNone_77 : decode cX11_whyNone 77 = .ok (.ifCond .eq 22, 3) := by decide +kernel
theorem dX11_whyNone_80 : decode cX11_whyNone 80 = .ok (.iload_n 2, 1) := by decide +kernel
theorem dX11_whyNone_81 : decode cX11_whyNone 81 = .ok (.iconst 3, 1) := by decide +kernel
theorem dX11_whyNone_82 : decode cX11_whyNone 82 = .ok (.if_icmp .eq 11, 3) := by decide +kernel
theorem dX11_whyNone_85 : decode cX11_whyNone 85 = .ok (.aload_n 0, 1) := by decide +kernel
theorem dX11_whyNone_86 : decode cX11_whyNone 86 = .ok (.iload_n 3, 1) := by decide +kernel
theorem dX11_whyNone_87 : decode cX11_whyNone 87 = .ok (.invokevirtual 141, 3) := by decide +kernel
theorem dX11_whyNone_90 : decode cX11_whyNone 90 = .ok (.ifCond .eq 7, 3) := by decide +kernel
theorem dX11_whyNone_93 : decode cX11_whyNone 93 = .ok (.iconst 3, 1) := by decide +kernel
theorem dX11_whyNone_94 : decode cX11_whyNone 94 = .ok (.goto 4, 3) := by decide +kernel
theorem dX11_whyNone_97 : decode cX11_whyNone 97 = .ok (.iconst 2, 1) := by decide +kernel
theorem dX11_whyNone_98 : decode cX11_whyNone 98 = .ok (.istore_n 2, 1) := by decide +kernel
theorem dX11_whyNone_99 : decode cX11_whyNone 99 = .ok (.iinc 3 1, 3) := by decide +kernel
theorem dX11_whyNone_102 : decode cX11_whyNone 102 = .ok (.goto (-39), 3) := by decide +kernel
theorem dX11_whyNone_105 : decode cX11_whyNone 105 = .ok (.iload_n 2, 1) := by decide +kernel
theorem dX11_whyNone_106 : decode cX11_whyNone 106 = .ok (.ireturn, 1) := by decide +kernel
def rmX11_whyNone : Room := rmk 15 0 0 357
theorem nX11_whyNone : nameOk yX11_whyNone 1 = true := by decide +kernel
def bX11_whyNone_0 (J : JT) : List Value → Sem
  | [.ref x0, .int x1] =>
    ob 11 x0 (cI SX11_isMark [.ref x0, .int x1] fun v1 =>
    ob 11 x0 (cI SX11_is [.ref x0, .int v1] fun v2 =>
    br (v2 = 0)
    (rI 0)
    (ob 11 x0 (cV SX11_reckons [.ref x0] <|
    J 1 [.ref x0, .int x1, .int 0]))))
  | _ => no
def bX11_whyNone_1 (J : JT) : List Value → Sem
  | [.ref x0, .int x1, .int x2] =>
    ob 11 x0 (cI SX11_marks [.ref x0] fun v1 =>
    br (v1 ≤ x2)
    (J 2 [.ref x0, .int x1, .int 1, .int 0])
    (ob 11 x0 (cI SX11_isBench [.ref x0, .int x2] fun v2 =>
    br (v2 = 0)
    (J 1 [.ref x0, .int x1, .int (x2 + 1)])
    (gR 11 15 x0 fun r3 =>
    aI r3 x2 fun v4 =>
    gR 11 15 x0 fun r5 =>
    aI r5 x1 fun v6 =>
    br (v4 = v6)
    (rI 0)
    (J 1 [.ref x0, .int x1, .int (x2 + 1)])))))
  | _ => no
def bX11_whyNone_2 (J : JT) : List Value → Sem
  | [.ref x0, .int x1, .int x2, .int x3] =>
    ob 11 x0 (cI SX11_sights [.ref x0] fun v1 =>
    br (v1 ≤ x3)
    (rI x2)
    (ob 11 x0 (cI SX11_isSightOf [.ref x0, .int x3, .int x1] fun v2 =>
    br (v2 = 0)
    (J 2 [.ref x0, .int x1, .int x2, .int (x3 + 1)])
    (br (x2 = (3 : Int32))
    (J 2 [.ref x0, .int x1, .int 3, .int (x3 + 1)])
    (ob 11 x0 (cI SX11_counts [.ref x0, .int x3] fun v3 =>
    br (v3 = 0)
    (J 2 [.ref x0, .int x1, .int 2, .int (x3 + 1)])
    (J 2 [.ref x0, .int x1, .int 3, .int (x3 + 1)])))))))
  | _ => no
def bX11_whyNone (J : JT) : JT := fun L a => match L with
  | 0 => bX11_whyNone_0 J a
  | 1 => bX11_whyNone_1 J a
  | 2 => bX11_whyNone_2 J a
  | _ => no
def SX11_whyNone : ST := mk 4 bX11_whyNone
def lX11_whyNone (L : Nat) (a : List Value) : Nat × Nat × Nat × List (Nat × Value) × List Value := match L with
  | 0 => (0, 0, 0, lv_args 0 a, [])
  | 1 => (0, 0, 20, List.zip [0, 1, 2] a, [])
  | 2 => (0, 0, 63, List.zip [0, 1, 2, 3] a, [])
  | _ => (0, 0, 0, [], [])
theorem pX11_whyNone_0 {Γ : CT} (hC : Ctx Γ "SpiritWallModel" cX11_whyNone 4 (some .int) rmX11_whyNone) (hnt : NT Γ) (J : JT) (hJ : ∀ L a, Cor Γ 4 (lX11_whyNone L a).1 (lX11_whyNone L a).2.1 (lX11_whyNone L a).2.2.1 (lX11_whyNone L a).2.2.2.1 (lX11_whyNone L a).2.2.2.2 (J L a)) (a : List Value) : Cor Γ 4 0 0 0 (lv_args 0 a) [] (bX11_whyNone_0 J a) := by
  unfold bX11_whyNone_0
  split
  · rename_i x0 x1
    refine c_sub [0, 1] rfl (loc' := [(0, .ref x0), (1, .int x1)]) ?_
    refine q_aload_n hC 0 dX11_whyNone_0 rfl rfl ?_
    refine q_aload_n hC 0 dX11_whyNone_1 rfl rfl ?_
    refine q_iload_n hC 1 dX11_whyNone_2 rfl rfl ?_
    refine q_cVI hC hnt (stk := [.ref x0]) (as := [.int x1]) sX11_isMark (ci := 11) (by decide) rfl nX11_isMark rfl w_850 w_852 w_853 w_830 w_851 (Nat.le_of_ble_eq_true rfl) dX11_whyNone_3 rfl (fun v1 => ?_)
    refine q_cVI hC hnt (stk := []) (as := [.int v1]) sX11_is (ci := 11) (by decide) rfl nX11_is rfl w_838 w_840 w_841 w_830 w_839 (Nat.le_of_ble_eq_true rfl) dX11_whyNone_6 rfl (fun v2 => ?_)
    refine q_if_ne hC 14 dX11_whyNone_9 rfl ?_ ?_
    · refine q_aload_n hC 0 dX11_whyNone_14 rfl rfl ?_
      refine q_cVV hC hnt (stk := []) (as := []) sX11_reckons (ci := 11) (by decide) rfl nX11_reckons rfl w_1016 w_1018 w_1019 w_830 w_1017 (Nat.le_of_ble_eq_true rfl) dX11_whyNone_15 rfl ?_
      refine q_iconst hC dX11_whyNone_18 rfl ?_
      refine q_istore_nA hC (loc' := [(2, .int 0), (0, .ref x0), (1, .int x1)]) dX11_whyNone_19 rfl (Nat.le_of_ble_eq_true rfl) rfl ?_
      exact c_sub [1, 2, 0] rfl (hJ 1 [.ref x0, .int x1, .int 0])
    · refine q_iconst hC dX11_whyNone_12 rfl ?_
      exact q_iret hC dX11_whyNone_13 (Nat.le_of_ble_eq_true rfl) (Nat.le_of_ble_eq_true rfl)
  · exact c_no
theorem pX11_whyNone_1 {Γ : CT} (hC : Ctx Γ "SpiritWallModel" cX11_whyNone 4 (some .int) rmX11_whyNone) (hnt : NT Γ) (J : JT) (hJ : ∀ L a, Cor Γ 4 (lX11_whyNone L a).1 (lX11_whyNone L a).2.1 (lX11_whyNone L a).2.2.1 (lX11_whyNone L a).2.2.2.1 (lX11_whyNone L a).2.2.2.2 (J L a)) (a : List Value) : Cor Γ 4 0 0 20 (List.zip [0, 1, 2] a) [] (bX11_whyNone_1 J a) := by
  unfold bX11_whyNone_1
  split
  · rename_i x0 x1 x2
    refine c_sub [0, 1, 2] rfl (loc' := [(0, .ref x0), (1, .int x1), (2, .int x2)]) ?_
    refine q_iload_n hC 2 dX11_whyNone_20 rfl rfl ?_
    refine q_aload_n hC 0 dX11_whyNone_21 rfl rfl ?_
    refine q_cVI hC hnt (stk := [.int x2]) (as := []) sX11_marks (ci := 11) (by decide) rfl nX11_marks rfl w_843 w_845 w_846 w_830 w_844 (Nat.le_of_ble_eq_true rfl) dX11_whyNone_22 rfl (fun v1 => ?_)
    refine q_ic_ge hC 59 dX11_whyNone_25 rfl ?_ ?_
    · refine q_iconst hC dX11_whyNone_59 rfl ?_
      refine q_istore_nA hC (loc' := [(2, .int 1), (0, .ref x0), (1, .int x1)]) dX11_whyNone_60 rfl (Nat.le_of_ble_eq_true rfl) rfl ?_
      refine q_iconst hC dX11_whyNone_61 rfl ?_
      refine q_istore_nA hC (loc' := [(3, .int 0), (2, .int 1), (0, .ref x0), (1, .int x1)]) dX11_whyNone_62 rfl (Nat.le_of_ble_eq_true rfl) rfl ?_
      exact c_sub [2, 3, 1, 0] rfl (hJ 2 [.ref x0, .int x1, .int 1, .int 0])
    · refine q_aload_n hC 0 dX11_whyNone_28 rfl rfl ?_
      refine q_iload_n hC 2 dX11_whyNone_29 rfl rfl ?_
      refine q_cVI hC hnt (stk := []) (as := [.int x2]) sX11_isBench (ci := 11) (by decide) rfl nX11_isBench rfl w_1028 w_1030 w_1031 w_830 w_1029 (Nat.le_of_ble_eq_true rfl) dX11_whyNone_30 rfl (fun v2 => ?_)
      refine q_if_eq hC 53 dX11_whyNone_33 rfl ?_ ?_
      · refine q_iincA hC (loc' := [(2, .int (x2 + 1)), (0, .ref x0), (1, .int x1)]) 2 1 dX11_whyNone_53 rfl rfl (Nat.le_of_ble_eq_true rfl) rfl ?_
        refine q_goto hC 20 dX11_whyNone_56 rfl ?_
        exact c_sub [1, 2, 0] rfl (hJ 1 [.ref x0, .int x1, .int (x2 + 1)])
      · refine q_aload_n hC 0 dX11_whyNone_36 rfl rfl ?_
        refine q_getR hC (by decide) (by decide) rfl w_820 dX11_whyNone_37 (fun r3 => ?_)
        refine q_iload_n hC 2 dX11_whyNone_40 rfl rfl ?_
        refine q_iald hC dX11_whyNone_41 (fun v4 => ?_)
        refine q_aload_n hC 0 dX11_whyNone_42 rfl rfl ?_
        refine q_getR hC (by decide) (by decide) rfl w_820 dX11_whyNone_43 (fun r5 => ?_)
        refine q_iload_n hC 1 dX11_whyNone_46 rfl rfl ?_
        refine q_iald hC dX11_whyNone_47 (fun v6 => ?_)
        refine q_ic_ne hC 53 dX11_whyNone_48 rfl ?_ ?_
        · refine q_iincA hC (loc' := [(2, .int (x2 + 1)), (0, .ref x0), (1, .int x1)]) 2 1 dX11_whyNone_53 rfl rfl (Nat.le_of_ble_eq_true rfl) rfl ?_
          refine q_goto hC 20 dX11_whyNone_56 rfl ?_
          exact c_sub [1, 2, 0] rfl (hJ 1 [.ref x0, .int x1, .int (x2 + 1)])
        · refine q_iconst hC dX11_whyNone_51 rfl ?_
          exact q_iret hC dX11_whyNone_52 (Nat.le_of_ble_eq_true rfl) (Nat.le_of_ble_eq_true rfl)
  · exact c_no
theorem pX11_whyNone_2 {Γ : CT} (hC : Ctx Γ "SpiritWallModel" cX11_whyNone 4 (some .int) rmX11_whyNone) (hnt : NT Γ) (J : JT) (hJ : ∀ L a, Cor Γ 4 (lX11_whyNone L a).1 (lX11_whyNone L a).2.1 (lX11_whyNone L a).2.2.1 (lX11_whyNone L a).2.2.2.1 (lX11_whyNone L a).2.2.2.2 (J L a)) (a : List Value) : Cor Γ 4 0 0 63 (List.zip [0, 1, 2, 3] a) [] (bX11_whyNone_2 J a) := by
  unfold bX11_whyNone_2
  split
  · rename_i x0 x1 x2 x3
    refine c_sub [0, 1, 2, 3] rfl (loc' := [(0, .ref x0), (1, .int x1), (2, .int x2), (3, .int x3)]) ?_
    refine q_iload_n hC 3 dX11_whyNone_63 rfl rfl ?_
    refine q_aload_n hC 0 dX11_whyNone_64 rfl rfl ?_
    refine q_cVI hC hnt (stk := [.int x3]) (as := []) sX11_sights (ci := 11) (by decide) rfl nX11_sights rfl w_854 w_856 w_857 w_830 w_855 (Nat.le_of_ble_eq_true rfl) dX11_whyNone_65 rfl (fun v1 => ?_)
    refine q_ic_ge hC 105 dX11_whyNone_68 rfl ?_ ?_
    · refine q_iload_n hC 2 dX11_whyNone_105 rfl rfl ?_
      exact q_iret hC dX11_whyNone_106 (Nat.le_of_ble_eq_true rfl) (Nat.le_of_ble_eq_true rfl)
    · refine q_aload_n hC 0 dX11_whyNone_71 rfl rfl ?_
      refine q_iload_n hC 3 dX11_whyNone_72 rfl rfl ?_
      refine q_iload_n hC 1 dX11_whyNone_73 rfl rfl ?_
      refine q_cVI hC hnt (stk := []) (as := [.int x3, .int x1]) sX11_isSightOf (ci := 11) (by decide) rfl nX11_isSightOf rfl w_1061 w_1063 w_1064 w_830 w_1062 (Nat.le_of_ble_eq_true rfl) dX11_whyNone_74 rfl (fun v2 => ?_)
      refine q_if_eq hC 99 dX11_whyNone_77 rfl ?_ ?_
      · refine q_iincA hC (loc' := [(3, .int (x3 + 1)), (0, .ref x0), (1, .int x1), (2, .int x2)]) 3 1 dX11_whyNone_99 rfl rfl (Nat.le_of_ble_eq_true rfl) rfl ?_
        refine q_goto hC 63 dX11_whyNone_102 rfl ?_
        exact c_sub [1, 2, 3, 0] rfl (hJ 2 [.ref x0, .int x1, .int x2, .int (x3 + 1)])
      · refine q_iload_n hC 2 dX11_whyNone_80 rfl rfl ?_
        refine q_iconst hC dX11_whyNone_81 rfl ?_
        refine q_ic_eq hC 93 dX11_whyNone_82 rfl ?_ ?_
        · refine q_iconst hC dX11_whyNone_93 rfl ?_
          refine q_goto hC 98 dX11_whyNone_94 rfl ?_
          refine q_istore_nA hC (loc' := [(2, .int 3), (0, .ref x0), (1, .int x1), (3, .int x3)]) dX11_whyNone_98 rfl (Nat.le_of_ble_eq_true rfl) rfl ?_
          refine q_iincA hC (loc' := [(3, .int (x3 + 1)), (2, .int 3), (0, .ref x0), (1, .int x1)]) 3 1 dX11_whyNone_99 rfl rfl (Nat.le_of_ble_eq_true rfl) rfl ?_
          refine q_goto hC 63 dX11_whyNone_102 rfl ?_
          exact c_sub [2, 3, 1, 0] rfl (hJ 2 [.ref x0, .int x1, .int 3, .int (x3 + 1)])
        · refine q_aload_n hC 0 dX11_whyNone_85 rfl rfl ?_
          refine q_iload_n hC 3 dX11_whyNone_86 rfl rfl ?_
          refine q_cVI hC hnt (stk := []) (as := [.int x3]) sX11_counts (ci := 11) (by decide) rfl nX11_counts rfl w_895 w_897 w_898 w_830 w_896 (Nat.le_of_ble_eq_true rfl) dX11_whyNone_87 rfl (fun v3 => ?_)
          refine q_if_eq hC 97 dX11_whyNone_90 rfl ?_ ?_
          · refine q_iconst hC dX11_whyNone_97 rfl ?_
            refine q_istore_nA hC (loc' := [(2, .int 2), (0, .ref x0), (1, .int x1), (3, .int x3)]) dX11_whyNone_98 rfl (Nat.le_of_ble_eq_true rfl) rfl ?_
            refine q_iincA hC (loc' := [(3, .int (x3 + 1)), (2, .int 2), (0, .ref x0), (1, .int x1)]) 3 1 dX11_whyNone_99 rfl rfl (Nat.le_of_ble_eq_true rfl) rfl ?_
            refine q_goto hC 63 dX11_whyNone_102 rfl ?_
            exact c_sub [2, 3, 1, 0] rfl (hJ 2 [.ref x0, .int x1, .int 2, .int (x3 + 1)])
          · refine q_iconst hC dX11_whyNone_93 rfl ?_
            refine q_goto hC 98 dX11_whyNone_94 rfl ?_
            refine q_istore_nA hC (loc' := [(2, .int 3), (0, .ref x0), (1, .int x1), (3, .int x3)]) dX11_whyNone_98 rfl (Nat.le_of_ble_eq_true rfl) rfl ?_
            refine q_iincA hC (loc' := [(3, .int (x3 + 1)), (2, .int 3), (0, .ref x0), (1, .int x1)]) 3 1 dX11_whyNone_99 rfl rfl (Nat.le_of_ble_eq_true rfl) rfl ?_
            refine q_goto hC 63 dX11_whyNone_102 rfl ?_
            exact c_sub [2, 3, 1, 0] rfl (hJ 2 [.ref x0, .int x1, .int 3, .int (x3 + 1)])
  · exact c_no
theorem sX11_whyNone : Snd yX11_whyNone (.code yX11_whyNone cX11_whyNone 4 (some .int)) rmX11_whyNone SX11_whyNone := by
  refine Snd.of lX11_whyNone (by decide +kernel) (fun _ => rfl) ?_
  intro Γ hC hnt hnm J hJ L a
  match L with
  | 0 => exact pX11_whyNone_0 hC hnt J hJ a
  | 1 => exact pX11_whyNone_1 hC hnt J hJ a
  | 2 => exact pX11_whyNone_2 hC hnt J hJ a
  | L + 3 => exact c_no
