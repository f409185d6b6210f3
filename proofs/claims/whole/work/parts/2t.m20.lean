/-! SpiritWallModel.readsOnce()V -/
theorem dX11_readsOnce_0 : decode cX11_readsOnce 0 = .ok (.aload_n 0, 1) := by decide +kernel
theorem dX11_readsOnce_1 : decode cX11_readsOnce 1 = .ok (.getfield 415, 3) := by decide +kernel
theorem dX11_readsOnce_4 : decode cX11_readsOnce 4 = .ok (.istore_n 1, 1) := by decide +kernel
theorem dX11_readsOnce_5 : decode cX11_readsOnce 5 = .ok (.aload_n 0, 1) := by decide +kernel
theorem dX11_readsOnce_6 : decode cX11_readsOnce 6 = .ok (.aload_n 0, 1) := by decide +kernel
theorem dX11_readsOnce_7 : decode cX11_readsOnce 7 = .ok (.getfield 481, 3) := by decide +kernel
theorem dX11_readsOnce_10 : decode cX11_readsOnce 10 = .ok (.iload_n 1, 1) := by decide +kernel
theorem dX11_readsOnce_11 : decode cX11_readsOnce 11 = .ok (.ishr, 1) := by decide +kernel
theorem dX11_readsOnce_12 : decode cX11_readsOnce 12 = .ok (.iconst 1, 1) := by decide +kernel
theorem dX11_readsOnce_13 : decode cX11_readsOnce 13 = .ok (.iand, 1) := by decide +kernel
theorem dX11_readsOnce_14 : decode cX11_readsOnce 14 = .ok (.ifCond .ne 7, 3) := by decide +kernel
theorem dX11_readsOnce_17 : decode cX11_readsOnce 17 = .ok (.iconst 1, 1) := by decide +kernel
theorem dX11_readsOnce_18 : decode cX11_readsOnce 18 = .ok (.goto 4, 3) := by decide +kernel
theorem dX11_readsOnce_21 : decode cX11_readsOnce 21 = .ok (.iconst 0, 1) := by decide +kernel
theorem dX11_readsOnce_22 : decode cX11_readsOnce 22 = .ok (.iconst 3, 1) := by decide +kernel
theorem dX11_readsOnce_23 : decode cX11_readsOnce 23 = .ok (.invokevirtual 451, 3) := by decide +kernel
theorem dX11_readsOnce_26 : decode cX11_readsOnce 26 = .ok (.aload_n 0, 1) := by decide +kernel
theorem dX11_readsOnce_27 : decode cX11_readsOnce 27 = .ok (.aload_n 0, 1) := by decide +kernel
theorem dX11_readsOnce_28 : decode cX11_readsOnce 28 = .ok (.getfield 481, 3) := by decide +kernel
theorem dX11_readsOnce_31 : decode cX11_readsOnce 31 = .ok (.iconst 1, 1) := by decide +kernel
theorem dX11_readsOnce_32 : decode cX11_readsOnce 32 = .ok (.iload_n 1, 1) := by decide +kernel
theorem dX11_readsOnce_33 : decode cX11_readsOnce 33 = .ok (.ishl, 1) := by decide +kernel
theorem dX11_readsOnce_34 : decode cX11_readsOnce 34 = .ok (.ior, 1) := by decide +kernel
theorem dX11_readsOnce_35 : decode cX11_readsOnce 35 = .ok (.putfield 481, 3) := by decide +kernel
theorem dX11_readsOnce_38 : decode cX11_readsOnce 38 = .ok (.aload_n 0, 1) := by decide +kernel
theorem dX11_readsOnce_39 : decode cX11_readsOnce 39 = .ok (.invokevirtual 458, 3) := by decide +kernel
theorem dX11_readsOnce_42 : decode cX11_readsOnce 42 = .ok (.iload_n 1, 1) := by decide +kernel
theorem dX11_readsOnce_43 : decode cX11_readsOnce 43 = .ok (.iconst 4, 1) := by decide +kernel
theorem dX11_readsOnce_44 : decode cX11_readsOnce 44 = .ok (.if_icmp .ne 16, 3) := by decide +kernel
theorem dX11_readsOnce_47 : decode cX11_readsOnce 47 = .ok (.aload_n 0, 1) := by decide +kernel
theorem dX11_readsOnce_48 : decode cX11_readsOnce 48 = .ok (.sipush (-999), 3) := by decide +kernel
theorem dX11_readsOnce_51 : decode cX11_readsOnce 51 = .ok (.sipush 999, 3) := by decide +kernel
theorem dX11_readsOnce_54 : decode cX11_readsOnce 54 = .ok (.invokevirtual 475, 3) := by decide +kernel
theorem dX11_readsOnce_57 : decode cX11_readsOnce 57 = .ok (.goto 55, 3) := by decide +kernel
theorem dX11_readsOnce_60 : decode cX11_readsOnce 60 = .ok (.iload_n 1, 1) := by decide +kernel
theorem dX11_readsOnce_61 : decode cX11_readsOnce 61 = .ok (.iconst 2, 1) := by decide +kernel
theorem dX11_readsOnce_62 : decode cX11_readsOnce 62 = .ok (.if_icmp .ne 14, 3) := by decide +kernel
theorem dX11_readsOnce_65 : decode cX11_readsOnce 65 = .ok (.aload_n 0, 1) := by decide +kernel
theorem dX11_readsOnce_66 : decode cX11_readsOnce 66 = .ok (.bipush (-99), 2) := by decide +kernel
theorem dX11_readsOnce_68 : decode cX11_readsOnce 68 = .ok (.bipush 99, 2) := by decide +kernel
theorem dX11_readsOnce_70 : decode cX11_readsOnce 70 = .ok (.invokevirtual 475, 3) := by decide +kernel
theorem dX11_readsOnce_73 : decode cX11_readsOnce 73 = .ok (.goto 39, 3) := by decide +kernel
theorem dX11_readsOnce_76 : decode cX11_readsOnce 76 = .ok (.aload_n 0, 1) := by decide +kernel
theorem dX11_readsOnce_77 : decode cX11_readsOnce 77 = .ok (.iload_n 1, 1) := by decide +kernel
theorem dX11_readsOnce_78 : decode cX11_readsOnce 78 = .ok (.ifCond .ne 7, 3) := by decide +kernel
theorem dX11_readsOnce_81 : decode cX11_readsOnce 81 = .ok (.iconst 1, 1) := by decide +kernel
theorem dX11_readsOnce_82 : decode cX11_readsOnce 82 = .ok (.goto 4, 3) := by decide +kernel
theorem dX11_readsOnce_85 : decode cX11_readsOnce 85 = .ok (.iconst 0, 1) := by decide +kernel
theorem dX11_readsOnce_86 : decode cX11_readsOnce 86 = .ok (.iload_n 1, 1) := by decide +kernel
theorem dX11_readsOnce_87 : decode cX11_readsOnce 87 = .ok (.ifCond .ne 9, 3) := by decide +kernel
theorem dX11_readsOnce_90 : decode cX11_readsOnce 90 = .ok (.sipush 9999, 3) := by decide +kernel
theorem dX11_readsOnce_93 : decode cX11_readsOnce 93 = .ok (.goto 16, 3) := by decide +kernel
theorem dX11_readsOnce_96 : decode cX11_readsOnce 96 = .ok (.iload_n 1, 1) := by decide +kernel
theorem dX11_readsOnce_97 : decode cX11_readsOnce 97 = .ok (.iconst 1, 1) := by decide +kernel
theorem dX11_readsOnce_98 : decode cX11_readsOnce 98 = .ok (.if_icmp .ne 8, 3) := by decide +kernel
theorem dX11_readsOnce_101 : decode cX11_readsOnce 101 = .ok (.bipush 99, 2) := by decide +kernel
theorem dX11_readsOnce_103 : decode cX11_readsOnce 103 = .ok (.goto 6, 3) := by decide +kernel
theorem dX11_readsOnce_106 : decode cX11_readsOnce 106 = .ok (.sipush 999, 3) := by decide +kernel
theorem dX11_readsOnce_109 : decode cX11_readsOnce 109 = .ok (.invokevirtual 461, 3) := by decide +kernel
theorem dX11_readsOnce_112 : decode cX11_readsOnce 112 = .ok (.istore_n 2, 1) := by decide +kernel
theorem dX11_readsOnce_113 : decode cX11_readsOnce 113 = .ok (.aload_n 0, 1) := by decide +kernel
theorem dX11_readsOnce_114 : decode cX11_readsOnce 114 = .ok (.invokevirtual 444, 3) := by decide +kernel
theorem dX11_readsOnce_117 : decode cX11_readsOnce 117 = .ok (.ifCond .ne 4, 3) := by decide +kernel
theorem dX11_readsOnce_120 : decode cX11_readsOnce 120 = .ok (.return_, 1) := by decide +kernel
theorem dX11_readsOnce_121 : decode cX11_readsOnce 121 = .ok (.iload_n 1, 1) := by decide +kernel
theorem dX11_readsOnce_122 : decode cX11_readsOnce 122 = .ok (.iconst 4, 1) := by decide +kernel
theorem dX11_readsOnce_123 : decode cX11_readsOnce 123 = .ok (.if_icmp .ne 22, 3) := by decide +kernel
theorem dX11_readsOnce_126 : decode cX11_readsOnce 126 = .ok (.aload_n 0, 1) := by decide +kernel
theorem dX11_readsOnce_127 : decode cX11_readsOnce 127 = .ok (.getfield 7, 3) := by decide +kernel
theorem dX11_readsOnce_130 : decode cX11_readsOnce 130 = .ok (.bipush 6, 2) := by decide +kernel
theorem dX11_readsOnce_132 : decode cX11_readsOnce 132 = .ok (.iconst 1, 1) := by decide +kernel
theorem dX11_readsOnce_133 : decode cX11_readsOnce 133 = .ok (.iastore, 1) := by decide +kernel
theorem dX11_readsOnce_134 : decode cX11_readsOnce 134 = .ok (.aload_n 0, 1) := by decide +kernel
theorem dX11_readsOnce_135 : decode cX11_readsOnce 135 = .ok (.getfield 7, 3) := by decide +kernel
theorem dX11_readsOnce_138 : decode cX11_readsOnce 138 = .ok (.bipush 7, 2) := by decide +kernel
theorem dX11_readsOnce_140 : decode cX11_readsOnce 140 = .ok (.iload_n 2, 1) := by decide +kernel
theorem dX11_readsOnce_141 : decode cX11_readsOnce 141 = .ok (.iastore, 1) := by decide +kernel
theorem dX11_readsOnce_142 : decode cX11_readsOnce 142 = .ok (.goto 12, 3) := by decide +kernel
theorem dX11_readsOnce_145 : decode cX11_readsOnce 145 = .ok (.aload_n 0, 1) := by decide +kernel
theorem dX11_readsOnce_146 : decode cX11_readsOnce 146 = .ok (.getfield 7, 3) := by decide +kernel
theorem dX11_readsOnce_149 : decode cX11_readsOnce 149 = .ok (.iconst 2, 1) := by decide +kernel
theorem dX11_readsOnce_150 : decode cX11_readsOnce 150 = .ok (.iload_n 1, 1) := by decide +kernel
theorem dX11_readsOnce_151 : decode cX11_readsOnce 151 = .ok (.iadd, 1) := by decide +kernel
theorem dX11_readsOnce_152 : decode cX11_readsOnce 152 = .ok (.iload_n 2, 1) := by decide +kernel
theorem dX11_readsOnce_153 : decode cX11_readsOnce 153 = .ok (.iastore, 1) := by decide +kernel
theorem dX11_readsOnce_154 : decode cX11_readsOnce 154 = .ok (.return_, 1) := by decide +kernel
def rmX11_readsOnce : Room := rmk 26 0 0 732
theorem nX11_readsOnce : nameOk yX11_readsOnce 0 = true := by decide +kernel
def bX11_readsOnce_0 (J : JT) : List Value → Sem
  | [.ref x0] =>
    gI 11 25 x0 fun v1 =>
    gI 11 29 x0 fun v2 =>
    br (((v2 >>> (v1 &&& 31)) &&& 1) = 0)
    (ob 11 x0 (cV SX11_needs [.ref x0, .int 1, .int 3] <|
    gI 11 29 x0 fun v44 =>
    pI 11 29 x0 (v44 ||| (1 <<< (v1 &&& 31))) <|
    ob 11 x0 (cV SX11_goOn [.ref x0] <|
    br (v1 = (4 : Int32))
    (ob 11 x0 (cI SX11_signed [.ref x0, .int (-999), .int 999] fun v80 =>
    ob 11 x0 (cI SX11_fine [.ref x0] fun v81 =>
    br (v81 = 0)
    (rV)
    (br (v1 = (4 : Int32))
    (gR 11 1 x0 fun r83 =>
    sA r83 6 1 <|
    gR 11 1 x0 fun r84 =>
    sA r84 7 v80 <|
    rV)
    (gR 11 1 x0 fun r82 =>
    sA r82 (2 + v1) v80 <|
    rV)))))
    (br (v1 = (2 : Int32))
    (ob 11 x0 (cI SX11_signed [.ref x0, .int (-99), .int 99] fun v75 =>
    ob 11 x0 (cI SX11_fine [.ref x0] fun v76 =>
    br (v76 = 0)
    (rV)
    (br (v1 = (4 : Int32))
    (gR 11 1 x0 fun r78 =>
    sA r78 6 1 <|
    gR 11 1 x0 fun r79 =>
    sA r79 7 v75 <|
    rV)
    (gR 11 1 x0 fun r77 =>
    sA r77 (2 + v1) v75 <|
    rV)))))
    (br (v1 = 0)
    (br (v1 = 0)
    (ob 11 x0 (cI SX11_number [.ref x0, .int 1, .int 9999] fun v70 =>
    ob 11 x0 (cI SX11_fine [.ref x0] fun v71 =>
    br (v71 = 0)
    (rV)
    (br (v1 = (4 : Int32))
    (gR 11 1 x0 fun r73 =>
    sA r73 6 1 <|
    gR 11 1 x0 fun r74 =>
    sA r74 7 v70 <|
    rV)
    (gR 11 1 x0 fun r72 =>
    sA r72 (2 + v1) v70 <|
    rV)))))
    (br (v1 = (1 : Int32))
    (ob 11 x0 (cI SX11_number [.ref x0, .int 1, .int 99] fun v65 =>
    ob 11 x0 (cI SX11_fine [.ref x0] fun v66 =>
    br (v66 = 0)
    (rV)
    (br (v1 = (4 : Int32))
    (gR 11 1 x0 fun r68 =>
    sA r68 6 1 <|
    gR 11 1 x0 fun r69 =>
    sA r69 7 v65 <|
    rV)
    (gR 11 1 x0 fun r67 =>
    sA r67 (2 + v1) v65 <|
    rV)))))
    (ob 11 x0 (cI SX11_number [.ref x0, .int 1, .int 999] fun v60 =>
    ob 11 x0 (cI SX11_fine [.ref x0] fun v61 =>
    br (v61 = 0)
    (rV)
    (br (v1 = (4 : Int32))
    (gR 11 1 x0 fun r63 =>
    sA r63 6 1 <|
    gR 11 1 x0 fun r64 =>
    sA r64 7 v60 <|
    rV)
    (gR 11 1 x0 fun r62 =>
    sA r62 (2 + v1) v60 <|
    rV)))))))
    (br (v1 = 0)
    (ob 11 x0 (cI SX11_number [.ref x0, .int 0, .int 9999] fun v55 =>
    ob 11 x0 (cI SX11_fine [.ref x0] fun v56 =>
    br (v56 = 0)
    (rV)
    (br (v1 = (4 : Int32))
    (gR 11 1 x0 fun r58 =>
    sA r58 6 1 <|
    gR 11 1 x0 fun r59 =>
    sA r59 7 v55 <|
    rV)
    (gR 11 1 x0 fun r57 =>
    sA r57 (2 + v1) v55 <|
    rV)))))
    (br (v1 = (1 : Int32))
    (ob 11 x0 (cI SX11_number [.ref x0, .int 0, .int 99] fun v50 =>
    ob 11 x0 (cI SX11_fine [.ref x0] fun v51 =>
    br (v51 = 0)
    (rV)
    (br (v1 = (4 : Int32))
    (gR 11 1 x0 fun r53 =>
    sA r53 6 1 <|
    gR 11 1 x0 fun r54 =>
    sA r54 7 v50 <|
    rV)
    (gR 11 1 x0 fun r52 =>
    sA r52 (2 + v1) v50 <|
    rV)))))
    (ob 11 x0 (cI SX11_number [.ref x0, .int 0, .int 999] fun v45 =>
    ob 11 x0 (cI SX11_fine [.ref x0] fun v46 =>
    br (v46 = 0)
    (rV)
    (br (v1 = (4 : Int32))
    (gR 11 1 x0 fun r48 =>
    sA r48 6 1 <|
    gR 11 1 x0 fun r49 =>
    sA r49 7 v45 <|
    rV)
    (gR 11 1 x0 fun r47 =>
    sA r47 (2 + v1) v45 <|
    rV))))))))))))
    (ob 11 x0 (cV SX11_needs [.ref x0, .int 0, .int 3] <|
    gI 11 29 x0 fun v3 =>
    pI 11 29 x0 (v3 ||| (1 <<< (v1 &&& 31))) <|
    ob 11 x0 (cV SX11_goOn [.ref x0] <|
    br (v1 = (4 : Int32))
    (ob 11 x0 (cI SX11_signed [.ref x0, .int (-999), .int 999] fun v39 =>
    ob 11 x0 (cI SX11_fine [.ref x0] fun v40 =>
    br (v40 = 0)
    (rV)
    (br (v1 = (4 : Int32))
    (gR 11 1 x0 fun r42 =>
    sA r42 6 1 <|
    gR 11 1 x0 fun r43 =>
    sA r43 7 v39 <|
    rV)
    (gR 11 1 x0 fun r41 =>
    sA r41 (2 + v1) v39 <|
    rV)))))
    (br (v1 = (2 : Int32))
    (ob 11 x0 (cI SX11_signed [.ref x0, .int (-99), .int 99] fun v34 =>
    ob 11 x0 (cI SX11_fine [.ref x0] fun v35 =>
    br (v35 = 0)
    (rV)
    (br (v1 = (4 : Int32))
    (gR 11 1 x0 fun r37 =>
    sA r37 6 1 <|
    gR 11 1 x0 fun r38 =>
    sA r38 7 v34 <|
    rV)
    (gR 11 1 x0 fun r36 =>
    sA r36 (2 + v1) v34 <|
    rV)))))
    (br (v1 = 0)
    (br (v1 = 0)
    (ob 11 x0 (cI SX11_number [.ref x0, .int 1, .int 9999] fun v29 =>
    ob 11 x0 (cI SX11_fine [.ref x0] fun v30 =>
    br (v30 = 0)
    (rV)
    (br (v1 = (4 : Int32))
    (gR 11 1 x0 fun r32 =>
    sA r32 6 1 <|
    gR 11 1 x0 fun r33 =>
    sA r33 7 v29 <|
    rV)
    (gR 11 1 x0 fun r31 =>
    sA r31 (2 + v1) v29 <|
    rV)))))
    (br (v1 = (1 : Int32))
    (ob 11 x0 (cI SX11_number [.ref x0, .int 1, .int 99] fun v24 =>
    ob 11 x0 (cI SX11_fine [.ref x0] fun v25 =>
    br (v25 = 0)
    (rV)
    (br (v1 = (4 : Int32))
    (gR 11 1 x0 fun r27 =>
    sA r27 6 1 <|
    gR 11 1 x0 fun r28 =>
    sA r28 7 v24 <|
    rV)
    (gR 11 1 x0 fun r26 =>
    sA r26 (2 + v1) v24 <|
    rV)))))
    (ob 11 x0 (cI SX11_number [.ref x0, .int 1, .int 999] fun v19 =>
    ob 11 x0 (cI SX11_fine [.ref x0] fun v20 =>
    br (v20 = 0)
    (rV)
    (br (v1 = (4 : Int32))
    (gR 11 1 x0 fun r22 =>
    sA r22 6 1 <|
    gR 11 1 x0 fun r23 =>
    sA r23 7 v19 <|
    rV)
    (gR 11 1 x0 fun r21 =>
    sA r21 (2 + v1) v19 <|
    rV)))))))
    (br (v1 = 0)
    (ob 11 x0 (cI SX11_number [.ref x0, .int 0, .int 9999] fun v14 =>
    ob 11 x0 (cI SX11_fine [.ref x0] fun v15 =>
    br (v15 = 0)
    (rV)
    (br (v1 = (4 : Int32))
    (gR 11 1 x0 fun r17 =>
    sA r17 6 1 <|
    gR 11 1 x0 fun r18 =>
    sA r18 7 v14 <|
    rV)
    (gR 11 1 x0 fun r16 =>
    sA r16 (2 + v1) v14 <|
    rV)))))
    (br (v1 = (1 : Int32))
    (ob 11 x0 (cI SX11_number [.ref x0, .int 0, .int 99] fun v9 =>
    ob 11 x0 (cI SX11_fine [.ref x0] fun v10 =>
    br (v10 = 0)
    (rV)
    (br (v1 = (4 : Int32))
    (gR 11 1 x0 fun r12 =>
    sA r12 6 1 <|
    gR 11 1 x0 fun r13 =>
    sA r13 7 v9 <|
    rV)
    (gR 11 1 x0 fun r11 =>
    sA r11 (2 + v1) v9 <|
    rV)))))
    (ob 11 x0 (cI SX11_number [.ref x0, .int 0, .int 999] fun v4 =>
    ob 11 x0 (cI SX11_fine [.ref x0] fun v5 =>
    br (v5 = 0)
    (rV)
    (br (v1 = (4 : Int32))
    (gR 11 1 x0 fun r7 =>
    sA r7 6 1 <|
    gR 11 1 x0 fun r8 =>
    sA r8 7 v4 <|
    rV)
    (gR 11 1 x0 fun r6 =>
    sA r6 (2 + v1) v4 <|
    rV))))))))))))
  | _ => no
def bX11_readsOnce (J : JT) : JT := fun L a => match L with
  | 0 => bX11_readsOnce_0 J a
  | _ => no
def SX11_readsOnce : ST := mk 3 bX11_readsOnce
def lX11_readsOnce (L : Nat) (a : List Value) : Nat × Nat × Nat × List (Nat × Value) × List Value := match L with
  | 0 => (0, 0, 0, lv_args 0 a, [])
  | _ => (0, 0, 0, [], [])
theorem pX11_readsOnce_0 {Γ : CT} (hC : Ctx Γ "SpiritWallModel" cX11_readsOnce 3 none rmX11_readsOnce) (hnt : NT Γ) (J : JT) (hJ : ∀ L a, Cor Γ 3 (lX11_readsOnce L a).1 (lX11_readsOnce L a).2.1 (lX11_readsOnce L a).2.2.1 (lX11_readsOnce L a).2.2.2.1 (lX11_readsOnce L a).2.2.2.2 (J L a)) (a : List Value) : Cor Γ 3 0 0 0 (lv_args 0 a) [] (bX11_readsOnce_0 J a) := by
  unfold bX11_readsOnce_0
  split
  · rename_i x0
    refine c_sub [0] rfl (loc' := [(0, .ref x0)]) ?_
    refine q_aload_n hC 0 dX11_readsOnce_0 rfl rfl ?_
    refine q_getI hC (by decide) (by decide) rfl w_1197 dX11_readsOnce_1 (fun v1 => ?_)
    refine q_istore_nA hC (loc' := [(1, .int v1), (0, .ref x0)]) dX11_readsOnce_4 rfl (Nat.le_of_ble_eq_true rfl) rfl ?_
    refine q_aload_n hC 1 dX11_readsOnce_5 rfl rfl ?_
    refine q_aload_n hC 1 dX11_readsOnce_6 rfl rfl ?_
    refine q_getI hC (by decide) (by decide) rfl w_1253 dX11_readsOnce_7 (fun v2 => ?_)
    refine q_iload_n hC 0 dX11_readsOnce_10 rfl rfl ?_
    refine q_ishr hC dX11_readsOnce_11 ?_
    refine q_iconst hC dX11_readsOnce_12 rfl ?_
    refine q_iand hC dX11_readsOnce_13 ?_
    refine q_if_ne hC 21 dX11_readsOnce_14 rfl ?_ ?_
    · refine q_iconst hC dX11_readsOnce_21 rfl ?_
      refine q_iconst hC dX11_readsOnce_22 rfl ?_
      refine q_cVV hC hnt (stk := []) (as := [.int 0, .int 3]) sX11_needs (ci := 11) (by decide) rfl nX11_needs rfl w_1215 w_1217 w_1218 w_830 w_1216 (Nat.le_of_ble_eq_true rfl) dX11_readsOnce_23 rfl ?_
      refine q_aload_n hC 1 dX11_readsOnce_26 rfl rfl ?_
      refine q_aload_n hC 1 dX11_readsOnce_27 rfl rfl ?_
      refine q_getI hC (by decide) (by decide) rfl w_1253 dX11_readsOnce_28 (fun v3 => ?_)
      refine q_iconst hC dX11_readsOnce_31 rfl ?_
      refine q_iload_n hC 0 dX11_readsOnce_32 rfl rfl ?_
      refine q_ishl hC dX11_readsOnce_33 ?_
      refine q_ior hC dX11_readsOnce_34 ?_
      refine q_putI hC (by decide) (by decide) rfl rfl w_1253 dX11_readsOnce_35 ?_
      refine q_aload_n hC 1 dX11_readsOnce_38 rfl rfl ?_
      refine q_cVV hC hnt (stk := []) (as := []) sX11_goOn (ci := 11) (by decide) rfl nX11_goOn rfl w_1223 w_1225 w_1226 w_830 w_1224 (Nat.le_of_ble_eq_true rfl) dX11_readsOnce_39 rfl ?_
      refine q_iload_n hC 0 dX11_readsOnce_42 rfl rfl ?_
      refine q_iconst hC dX11_readsOnce_43 rfl ?_
      refine q_ic_ne hC 60 dX11_readsOnce_44 rfl ?_ ?_
      · refine q_iload_n hC 0 dX11_readsOnce_60 rfl rfl ?_
        refine q_iconst hC dX11_readsOnce_61 rfl ?_
        refine q_ic_ne hC 76 dX11_readsOnce_62 rfl ?_ ?_
        · refine q_aload_n hC 1 dX11_readsOnce_76 rfl rfl ?_
          refine q_iload_n hC 0 dX11_readsOnce_77 rfl rfl ?_
          refine q_if_ne hC 85 dX11_readsOnce_78 rfl ?_ ?_
          · refine q_iconst hC dX11_readsOnce_85 rfl ?_
            refine q_iload_n hC 0 dX11_readsOnce_86 rfl rfl ?_
            refine q_if_ne hC 96 dX11_readsOnce_87 rfl ?_ ?_
            · refine q_iload_n hC 0 dX11_readsOnce_96 rfl rfl ?_
              refine q_iconst hC dX11_readsOnce_97 rfl ?_
              refine q_ic_ne hC 106 dX11_readsOnce_98 rfl ?_ ?_
              · refine q_sipush hC (v := 999) dX11_readsOnce_106 rfl ?_
                refine q_cVI hC hnt (stk := []) (as := [.int 0, .int 999]) sX11_number (ci := 11) (by decide) rfl nX11_number rfl w_1227 w_1229 w_1230 w_830 w_1228 (Nat.le_of_ble_eq_true rfl) dX11_readsOnce_109 rfl (fun v4 => ?_)
                refine q_istore_nA hC (loc' := [(2, .int v4), (1, .int v1), (0, .ref x0)]) dX11_readsOnce_112 rfl (Nat.le_of_ble_eq_true rfl) rfl ?_
                refine q_aload_n hC 2 dX11_readsOnce_113 rfl rfl ?_
                refine q_cVI hC hnt (stk := []) (as := []) sX11_fine (ci := 11) (by decide) rfl nX11_fine rfl w_1207 w_1209 w_1210 w_830 w_1208 (Nat.le_of_ble_eq_true rfl) dX11_readsOnce_114 rfl (fun v5 => ?_)
                refine q_if_ne hC 121 dX11_readsOnce_117 rfl ?_ ?_
                · refine q_iload_n hC 1 dX11_readsOnce_121 rfl rfl ?_
                  refine q_iconst hC dX11_readsOnce_122 rfl ?_
                  refine q_ic_ne hC 145 dX11_readsOnce_123 rfl ?_ ?_
                  · refine q_aload_n hC 2 dX11_readsOnce_145 rfl rfl ?_
                    refine q_getR hC (by decide) (by decide) rfl w_808 dX11_readsOnce_146 (fun r6 => ?_)
                    refine q_iconst hC dX11_readsOnce_149 rfl ?_
                    refine q_iload_n hC 1 dX11_readsOnce_150 rfl rfl ?_
                    refine q_iadd hC dX11_readsOnce_151 ?_
                    refine q_iload_n hC 0 dX11_readsOnce_152 rfl rfl ?_
                    refine q_iast hC dX11_readsOnce_153 ?_
                    exact q_vret hC dX11_readsOnce_154 (Nat.le_of_ble_eq_true rfl) (Nat.le_of_ble_eq_true rfl)
                  · refine q_aload_n hC 2 dX11_readsOnce_126 rfl rfl ?_
                    refine q_getR hC (by decide) (by decide) rfl w_808 dX11_readsOnce_127 (fun r7 => ?_)
                    refine q_bipush hC (v := 6) dX11_readsOnce_130 rfl ?_
                    refine q_iconst hC dX11_readsOnce_132 rfl ?_
                    refine q_iast hC dX11_readsOnce_133 ?_
                    refine q_aload_n hC 2 dX11_readsOnce_134 rfl rfl ?_
                    refine q_getR hC (by decide) (by decide) rfl w_808 dX11_readsOnce_135 (fun r8 => ?_)
                    refine q_bipush hC (v := 7) dX11_readsOnce_138 rfl ?_
                    refine q_iload_n hC 0 dX11_readsOnce_140 rfl rfl ?_
                    refine q_iast hC dX11_readsOnce_141 ?_
                    refine q_goto hC 154 dX11_readsOnce_142 rfl ?_
                    exact q_vret hC dX11_readsOnce_154 (Nat.le_of_ble_eq_true rfl) (Nat.le_of_ble_eq_true rfl)
                · exact q_vret hC dX11_readsOnce_120 (Nat.le_of_ble_eq_true rfl) (Nat.le_of_ble_eq_true rfl)
              · refine q_bipush hC (v := 99) dX11_readsOnce_101 rfl ?_
                refine q_goto hC 109 dX11_readsOnce_103 rfl ?_
                refine q_cVI hC hnt (stk := []) (as := [.int 0, .int 99]) sX11_number (ci := 11) (by decide) rfl nX11_number rfl w_1227 w_1229 w_1230 w_830 w_1228 (Nat.le_of_ble_eq_true rfl) dX11_readsOnce_109 rfl (fun v9 => ?_)
                refine q_istore_nA hC (loc' := [(2, .int v9), (1, .int v1), (0, .ref x0)]) dX11_readsOnce_112 rfl (Nat.le_of_ble_eq_true rfl) rfl ?_
                refine q_aload_n hC 2 dX11_readsOnce_113 rfl rfl ?_
                refine q_cVI hC hnt (stk := []) (as := []) sX11_fine (ci := 11) (by decide) rfl nX11_fine rfl w_1207 w_1209 w_1210 w_830 w_1208 (Nat.le_of_ble_eq_true rfl) dX11_readsOnce_114 rfl (fun v10 => ?_)
                refine q_if_ne hC 121 dX11_readsOnce_117 rfl ?_ ?_
                · refine q_iload_n hC 1 dX11_readsOnce_121 rfl rfl ?_
                  refine q_iconst hC dX11_readsOnce_122 rfl ?_
                  refine q_ic_ne hC 145 dX11_readsOnce_123 rfl ?_ ?_
                  · refine q_aload_n hC 2 dX11_readsOnce_145 rfl rfl ?_
                    refine q_getR hC (by decide) (by decide) rfl w_808 dX11_readsOnce_146 (fun r11 => ?_)
                    refine q_iconst hC dX11_readsOnce_149 rfl ?_
                    refine q_iload_n hC 1 dX11_readsOnce_150 rfl rfl ?_
                    refine q_iadd hC dX11_readsOnce_151 ?_
                    refine q_iload_n hC 0 dX11_readsOnce_152 rfl rfl ?_
                    refine q_iast hC dX11_readsOnce_153 ?_
                    exact q_vret hC dX11_readsOnce_154 (Nat.le_of_ble_eq_true rfl) (Nat.le_of_ble_eq_true rfl)
                  · refine q_aload_n hC 2 dX11_readsOnce_126 rfl rfl ?_
                    refine q_getR hC (by decide) (by decide) rfl w_808 dX11_readsOnce_127 (fun r12 => ?_)
                    refine q_bipush hC (v := 6) dX11_readsOnce_130 rfl ?_
                    refine q_iconst hC dX11_readsOnce_132 rfl ?_
                    refine q_iast hC dX11_readsOnce_133 ?_
                    refine q_aload_n hC 2 dX11_readsOnce_134 rfl rfl ?_
                    refine q_getR hC (by decide) (by decide) rfl w_808 dX11_readsOnce_135 (fun r13 => ?_)
                    refine q_bipush hC (v := 7) dX11_readsOnce_138 rfl ?_
                    refine q_iload_n hC 0 dX11_readsOnce_140 rfl rfl ?_
                    refine q_iast hC dX11_readsOnce_141 ?_
                    refine q_goto hC 154 dX11_readsOnce_142 rfl ?_
                    exact q_vret hC dX11_readsOnce_154 (Nat.le_of_ble_eq_true rfl) (Nat.le_of_ble_eq_true rfl)
                · exact q_vret hC dX11_readsOnce_120 (Nat.le_of_ble_eq_true rfl) (Nat.le_of_ble_eq_true rfl)
            · refine q_sipush hC (v := 9999) dX11_readsOnce_90 rfl ?_
              refine q_goto hC 109 dX11_readsOnce_93 rfl ?_
              refine q_cVI hC hnt (stk := []) (as := [.int 0, .int 9999]) sX11_number (ci := 11) (by decide) rfl nX11_number rfl w_1227 w_1229 w_1230 w_830 w_1228 (Nat.le_of_ble_eq_true rfl) dX11_readsOnce_109 rfl (fun v14 => ?_)
              refine q_istore_nA hC (loc' := [(2, .int v14), (1, .int v1), (0, .ref x0)]) dX11_readsOnce_112 rfl (Nat.le_of_ble_eq_true rfl) rfl ?_
              refine q_aload_n hC 2 dX11_readsOnce_113 rfl rfl ?_
              refine q_cVI hC hnt (stk := []) (as := []) sX11_fine (ci := 11) (by decide) rfl nX11_fine rfl w_1207 w_1209 w_1210 w_830 w_1208 (Nat.le_of_ble_eq_true rfl) dX11_readsOnce_114 rfl (fun v15 => ?_)
              refine q_if_ne hC 121 dX11_readsOnce_117 rfl ?_ ?_
              · refine q_iload_n hC 1 dX11_readsOnce_121 rfl rfl ?_
                refine q_iconst hC dX11_readsOnce_122 rfl ?_
                refine q_ic_ne hC 145 dX11_readsOnce_123 rfl ?_ ?_
                · refine q_aload_n hC 2 dX11_readsOnce_145 rfl rfl ?_
                  refine q_getR hC (by decide) (by decide) rfl w_808 dX11_readsOnce_146 (fun r16 => ?_)
                  refine q_iconst hC dX11_readsOnce_149 rfl ?_
                  refine q_iload_n hC 1 dX11_readsOnce_150 rfl rfl ?_
                  refine q_iadd hC dX11_readsOnce_151 ?_
                  refine q_iload_n hC 0 dX11_readsOnce_152 rfl rfl ?_
                  refine q_iast hC dX11_readsOnce_153 ?_
                  exact q_vret hC dX11_readsOnce_154 (Nat.le_of_ble_eq_true rfl) (Nat.le_of_ble_eq_true rfl)
                · refine q_aload_n hC 2 dX11_readsOnce_126 rfl rfl ?_
                  refine q_getR hC (by decide) (by decide) rfl w_808 dX11_readsOnce_127 (fun r17 => ?_)
                  refine q_bipush hC (v := 6) dX11_readsOnce_130 rfl ?_
                  refine q_iconst hC dX11_readsOnce_132 rfl ?_
                  refine q_iast hC dX11_readsOnce_133 ?_
                  refine q_aload_n hC 2 dX11_readsOnce_134 rfl rfl ?_
                  refine q_getR hC (by decide) (by decide) rfl w_808 dX11_readsOnce_135 (fun r18 => ?_)
                  refine q_bipush hC (v := 7) dX11_readsOnce_138 rfl ?_
                  refine q_iload_n hC 0 dX11_readsOnce_140 rfl rfl ?_
                  refine q_iast hC dX11_readsOnce_141 ?_
                  refine q_goto hC 154 dX11_readsOnce_142 rfl ?_
                  exact q_vret hC dX11_readsOnce_154 (Nat.le_of_ble_eq_true rfl) (Nat.le_of_ble_eq_true rfl)
              · exact q_vret hC dX11_readsOnce_120 (Nat.le_of_ble_eq_true rfl) (Nat.le_of_ble_eq_true rfl)
          · refine q_iconst hC dX11_readsOnce_81 rfl ?_
            refine q_goto hC 86 dX11_readsOnce_82 rfl ?_
            refine q_iload_n hC 0 dX11_readsOnce_86 rfl rfl ?_
            refine q_if_ne hC 96 dX11_readsOnce_87 rfl ?_ ?_
            · refine q_iload_n hC 0 dX11_readsOnce_96 rfl rfl ?_
              refine q_iconst hC dX11_readsOnce_97 rfl ?_
              refine q_ic_ne hC 106 dX11_readsOnce_98 rfl ?_ ?_
              · refine q_sipush hC (v := 999) dX11_readsOnce_106 rfl ?_
                refine q_cVI hC hnt (stk := []) (as := [.int 1, .int 999]) sX11_number (ci := 11) (by decide) rfl nX11_number rfl w_1227 w_1229 w_1230 w_830 w_1228 (Nat.le_of_ble_eq_true rfl) dX11_readsOnce_109 rfl (fun v19 => ?_)
                refine q_istore_nA hC (loc' := [(2, .int v19), (1, .int v1), (0, .ref x0)]) dX11_readsOnce_112 rfl (Nat.le_of_ble_eq_true rfl) rfl ?_
                refine q_aload_n hC 2 dX11_readsOnce_113 rfl rfl ?_
                refine q_cVI hC hnt (stk := []) (as := []) sX11_fine (ci := 11) (by decide) rfl nX11_fine rfl w_1207 w_1209 w_1210 w_830 w_1208 (Nat.le_of_ble_eq_true rfl) dX11_readsOnce_114 rfl (fun v20 => ?_)
                refine q_if_ne hC 121 dX11_readsOnce_117 rfl ?_ ?_
                · refine q_iload_n hC 1 dX11_readsOnce_121 rfl rfl ?_
                  refine q_iconst hC dX11_readsOnce_122 rfl ?_
                  refine q_ic_ne hC 145 dX11_readsOnce_123 rfl ?_ ?_
                  · refine q_aload_n hC 2 dX11_readsOnce_145 rfl rfl ?_
                    refine q_getR hC (by decide) (by decide) rfl w_808 dX11_readsOnce_146 (fun r21 => ?_)
                    refine q_iconst hC dX11_readsOnce_149 rfl ?_
                    refine q_iload_n hC 1 dX11_readsOnce_150 rfl rfl ?_
                    refine q_iadd hC dX11_readsOnce_151 ?_
                    refine q_iload_n hC 0 dX11_readsOnce_152 rfl rfl ?_
                    refine q_iast hC dX11_readsOnce_153 ?_
                    exact q_vret hC dX11_readsOnce_154 (Nat.le_of_ble_eq_true rfl) (Nat.le_of_ble_eq_true rfl)
                  · refine q_aload_n hC 2 dX11_readsOnce_126 rfl rfl ?_
                    refine q_getR hC (by decide) (by decide) rfl w_808 dX11_readsOnce_127 (fun r22 => ?_)
                    refine q_bipush hC (v := 6) dX11_readsOnce_130 rfl ?_
                    refine q_iconst hC dX11_readsOnce_132 rfl ?_
                    refine q_iast hC dX11_readsOnce_133 ?_
                    refine q_aload_n hC 2 dX11_readsOnce_134 rfl rfl ?_
                    refine q_getR hC (by decide) (by decide) rfl w_808 dX11_readsOnce_135 (fun r23 => ?_)
                    refine q_bipush hC (v := 7) dX11_readsOnce_138 rfl ?_
                    refine q_iload_n hC 0 dX11_readsOnce_140 rfl rfl ?_
                    refine q_iast hC dX11_readsOnce_141 ?_
                    refine q_goto hC 154 dX11_readsOnce_142 rfl ?_
                    exact q_vret hC dX11_readsOnce_154 (Nat.le_of_ble_eq_true rfl) (Nat.le_of_ble_eq_true rfl)
                · exact q_vret hC dX11_readsOnce_120 (Nat.le_of_ble_eq_true rfl) (Nat.le_of_ble_eq_true rfl)
              · refine q_bipush hC (v := 99) dX11_readsOnce_101 rfl ?_
                refine q_goto hC 109 dX11_readsOnce_103 rfl ?_
                refine q_cVI hC hnt (stk := []) (as := [.int 1, .int 99]) sX11_number (ci := 11) (by decide) rfl nX11_number rfl w_1227 w_1229 w_1230 w_830 w_1228 (Nat.le_of_ble_eq_true rfl) dX11_readsOnce_109 rfl (fun v24 => ?_)
                refine q_istore_nA hC (loc' := [(2, .int v24), (1, .int v1), (0, .ref x0)]) dX11_readsOnce_112 rfl (Nat.le_of_ble_eq_true rfl) rfl ?_
                refine q_aload_n hC 2 dX11_readsOnce_113 rfl rfl ?_
                refine q_cVI hC hnt (stk := []) (as := []) sX11_fine (ci := 11) (by decide) rfl nX11_fine rfl w_1207 w_1209 w_1210 w_830 w_1208 (Nat.le_of_ble_eq_true rfl) dX11_readsOnce_114 rfl (fun v25 => ?_)
                refine q_if_ne hC 121 dX11_readsOnce_117 rfl ?_ ?_
                · refine q_iload_n hC 1 dX11_readsOnce_121 rfl rfl ?_
                  refine q_iconst hC dX11_readsOnce_122 rfl ?_
                  refine q_ic_ne hC 145 dX11_readsOnce_123 rfl ?_ ?_
                  · refine q_aload_n hC 2 dX11_readsOnce_145 rfl rfl ?_
                    refine q_getR hC (by decide) (by decide) rfl w_808 dX11_readsOnce_146 (fun r26 => ?_)
                    refine q_iconst hC dX11_readsOnce_149 rfl ?_
                    refine q_iload_n hC 1 dX11_readsOnce_150 rfl rfl ?_
                    refine q_iadd hC dX11_readsOnce_151 ?_
                    refine q_iload_n hC 0 dX11_readsOnce_152 rfl rfl ?_
                    refine q_iast hC dX11_readsOnce_153 ?_
                    exact q_vret hC dX11_readsOnce_154 (Nat.le_of_ble_eq_true rfl) (Nat.le_of_ble_eq_true rfl)
                  · refine q_aload_n hC 2 dX11_readsOnce_126 rfl rfl ?_
                    refine q_getR hC (by decide) (by decide) rfl w_808 dX11_readsOnce_127 (fun r27 => ?_)
                    refine q_bipush hC (v := 6) dX11_readsOnce_130 rfl ?_
                    refine q_iconst hC dX11_readsOnce_132 rfl ?_
                    refine q_iast hC dX11_readsOnce_133 ?_
                    refine q_aload_n hC 2 dX11_readsOnce_134 rfl rfl ?_
                    refine q_getR hC (by decide) (by decide) rfl w_808 dX11_readsOnce_135 (fun r28 => ?_)
                    refine q_bipush hC (v := 7) dX11_readsOnce_138 rfl ?_
                    refine q_iload_n hC 0 dX11_readsOnce_140 rfl rfl ?_
                    refine q_iast hC dX11_readsOnce_141 ?_
                    refine q_goto hC 154 dX11_readsOnce_142 rfl ?_
                    exact q_vret hC dX11_readsOnce_154 (Nat.le_of_ble_eq_true rfl) (Nat.le_of_ble_eq_true rfl)
                · exact q_vret hC dX11_readsOnce_120 (Nat.le_of_ble_eq_true rfl) (Nat.le_of_ble_eq_true rfl)
            · refine q_sipush hC (v := 9999) dX11_readsOnce_90 rfl ?_
              refine q_goto hC 109 dX11_readsOnce_93 rfl ?_
              refine q_cVI hC hnt (stk := []) (as := [.int 1, .int 9999]) sX11_number (ci := 11) (by decide) rfl nX11_number rfl w_1227 w_1229 w_1230 w_830 w_1228 (Nat.le_of_ble_eq_true rfl) dX11_readsOnce_109 rfl (fun v29 => ?_)
              refine q_istore_nA hC (loc' := [(2, .int v29), (1, .int v1), (0, .ref x0)]) dX11_readsOnce_112 rfl (Nat.le_of_ble_eq_true rfl) rfl ?_
              refine q_aload_n hC 2 dX11_readsOnce_113 rfl rfl ?_
              refine q_cVI hC hnt (stk := []) (as := []) sX11_fine (ci := 11) (by decide) rfl nX11_fine rfl w_1207 w_1209 w_1210 w_830 w_1208 (Nat.le_of_ble_eq_true rfl) dX11_readsOnce_114 rfl (fun v30 => ?_)
              refine q_if_ne hC 121 dX11_readsOnce_117 rfl ?_ ?_
              · refine q_iload_n hC 1 dX11_readsOnce_121 rfl rfl ?_
                refine q_iconst hC dX11_readsOnce_122 rfl ?_
                refine q_ic_ne hC 145 dX11_readsOnce_123 rfl ?_ ?_
                · refine q_aload_n hC 2 dX11_readsOnce_145 rfl rfl ?_
                  refine q_getR hC (by decide) (by decide) rfl w_808 dX11_readsOnce_146 (fun r31 => ?_)
                  refine q_iconst hC dX11_readsOnce_149 rfl ?_
                  refine q_iload_n hC 1 dX11_readsOnce_150 rfl rfl ?_
                  refine q_iadd hC dX11_readsOnce_151 ?_
                  refine q_iload_n hC 0 dX11_readsOnce_152 rfl rfl ?_
                  refine q_iast hC dX11_readsOnce_153 ?_
                  exact q_vret hC dX11_readsOnce_154 (Nat.le_of_ble_eq_true rfl) (Nat.le_of_ble_eq_true rfl)
                · refine q_aload_n hC 2 dX11_readsOnce_126 rfl rfl ?_
                  refine q_getR hC (by decide) (by decide) rfl w_808 dX11_readsOnce_127 (fun r32 => ?_)
                  refine q_bipush hC (v := 6) dX11_readsOnce_130 rfl ?_
                  refine q_iconst hC dX11_readsOnce_132 rfl ?_
                  refine q_iast hC dX11_readsOnce_133 ?_
                  refine q_aload_n hC 2 dX11_readsOnce_134 rfl rfl ?_
                  refine q_getR hC (by decide) (by decide) rfl w_808 dX11_readsOnce_135 (fun r33 => ?_)
                  refine q_bipush hC (v := 7) dX11_readsOnce_138 rfl ?_
                  refine q_iload_n hC 0 dX11_readsOnce_140 rfl rfl ?_
                  refine q_iast hC dX11_readsOnce_141 ?_
                  refine q_goto hC 154 dX11_readsOnce_142 rfl ?_
                  exact q_vret hC dX11_readsOnce_154 (Nat.le_of_ble_eq_true rfl) (Nat.le_of_ble_eq_true rfl)
              · exact q_vret hC dX11_readsOnce_120 (Nat.le_of_ble_eq_true rfl) (Nat.le_of_ble_eq_true rfl)
        · refine q_aload_n hC 1 dX11_readsOnce_65 rfl rfl ?_
          refine q_bipush hC (v := (-99)) dX11_readsOnce_66 rfl ?_
          refine q_bipush hC (v := 99) dX11_readsOnce_68 rfl ?_
          refine q_cVI hC hnt (stk := []) (as := [.int (-99), .int 99]) sX11_signed (ci := 11) (by decide) rfl nX11_signed rfl w_1245 w_1247 w_1248 w_830 w_1246 (Nat.le_of_ble_eq_true rfl) dX11_readsOnce_70 rfl (fun v34 => ?_)
          refine q_goto hC 112 dX11_readsOnce_73 rfl ?_
          refine q_istore_nA hC (loc' := [(2, .int v34), (1, .int v1), (0, .ref x0)]) dX11_readsOnce_112 rfl (Nat.le_of_ble_eq_true rfl) rfl ?_
          refine q_aload_n hC 2 dX11_readsOnce_113 rfl rfl ?_
          refine q_cVI hC hnt (stk := []) (as := []) sX11_fine (ci := 11) (by decide) rfl nX11_fine rfl w_1207 w_1209 w_1210 w_830 w_1208 (Nat.le_of_ble_eq_true rfl) dX11_readsOnce_114 rfl (fun v35 => ?_)
          refine q_if_ne hC 121 dX11_readsOnce_117 rfl ?_ ?_
          · refine q_iload_n hC 1 dX11_readsOnce_121 rfl rfl ?_
            refine q_iconst hC dX11_readsOnce_122 rfl ?_
            refine q_ic_ne hC 145 dX11_readsOnce_123 rfl ?_ ?_
            · refine q_aload_n hC 2 dX11_readsOnce_145 rfl rfl ?_
              refine q_getR hC (by decide) (by decide) rfl w_808 dX11_readsOnce_146 (fun r36 => ?_)
              refine q_iconst hC dX11_readsOnce_149 rfl ?_
              refine q_iload_n hC 1 dX11_readsOnce_150 rfl rfl ?_
              refine q_iadd hC dX11_readsOnce_151 ?_
              refine q_iload_n hC 0 dX11_readsOnce_152 rfl rfl ?_
              refine q_iast hC dX11_readsOnce_153 ?_
              exact q_vret hC dX11_readsOnce_154 (Nat.le_of_ble_eq_true rfl) (Nat.le_of_ble_eq_true rfl)
            · refine q_aload_n hC 2 dX11_readsOnce_126 rfl rfl ?_
              refine q_getR hC (by decide) (by decide) rfl w_808 dX11_readsOnce_127 (fun r37 => ?_)
              refine q_bipush hC (v := 6) dX11_readsOnce_130 rfl ?_
              refine q_iconst hC dX11_readsOnce_132 rfl ?_
              refine q_iast hC dX11_readsOnce_133 ?_
              refine q_aload_n hC 2 dX11_readsOnce_134 rfl rfl ?_
              refine q_getR hC (by decide) (by decide) rfl w_808 dX11_readsOnce_135 (fun r38 => ?_)
              refine q_bipush hC (v := 7) dX11_readsOnce_138 rfl ?_
              refine q_iload_n hC 0 dX11_readsOnce_140 rfl rfl ?_
              refine q_iast hC dX11_readsOnce_141 ?_
              refine q_goto hC 154 dX11_readsOnce_142 rfl ?_
              exact q_vret hC dX11_readsOnce_154 (Nat.le_of_ble_eq_true rfl) (Nat.le_of_ble_eq_true rfl)
          · exact q_vret hC dX11_readsOnce_120 (Nat.le_of_ble_eq_true rfl) (Nat.le_of_ble_eq_true rfl)
      · refine q_aload_n hC 1 dX11_readsOnce_47 rfl rfl ?_
        refine q_sipush hC (v := (-999)) dX11_readsOnce_48 rfl ?_
        refine q_sipush hC (v := 999) dX11_readsOnce_51 rfl ?_
        refine q_cVI hC hnt (stk := []) (as := [.int (-999), .int 999]) sX11_signed (ci := 11) (by decide) rfl nX11_signed rfl w_1245 w_1247 w_1248 w_830 w_1246 (Nat.le_of_ble_eq_true rfl) dX11_readsOnce_54 rfl (fun v39 => ?_)
        refine q_goto hC 112 dX11_readsOnce_57 rfl ?_
        refine q_istore_nA hC (loc' := [(2, .int v39), (1, .int v1), (0, .ref x0)]) dX11_readsOnce_112 rfl (Nat.le_of_ble_eq_true rfl) rfl ?_
        refine q_aload_n hC 2 dX11_readsOnce_113 rfl rfl ?_
        refine q_cVI hC hnt (stk := []) (as := []) sX11_fine (ci := 11) (by decide) rfl nX11_fine rfl w_1207 w_1209 w_1210 w_830 w_1208 (Nat.le_of_ble_eq_true rfl) dX11_readsOnce_114 rfl (fun v40 => ?_)
        refine q_if_ne hC 121 dX11_readsOnce_117 rfl ?_ ?_
        · refine q_iload_n hC 1 dX11_readsOnce_121 rfl rfl ?_
          refine q_iconst hC dX11_readsOnce_122 rfl ?_
          refine q_ic_ne hC 145 dX11_readsOnce_123 rfl ?_ ?_
          · refine q_aload_n hC 2 dX11_readsOnce_145 rfl rfl ?_
            refine q_getR hC (by decide) (by decide) rfl w_808 dX11_readsOnce_146 (fun r41 => ?_)
            refine q_iconst hC dX11_readsOnce_149 rfl ?_
            refine q_iload_n hC 1 dX11_readsOnce_150 rfl rfl ?_
            refine q_iadd hC dX11_readsOnce_151 ?_
            refine q_iload_n hC 0 dX11_readsOnce_152 rfl rfl ?_
            refine q_iast hC dX11_readsOnce_153 ?_
            exact q_vret hC dX11_readsOnce_154 (Nat.le_of_ble_eq_true rfl) (Nat.le_of_ble_eq_true rfl)
          · refine q_aload_n hC 2 dX11_readsOnce_126 rfl rfl ?_
            refine q_getR hC (by decide) (by decide) rfl w_808 dX11_readsOnce_127 (fun r42 => ?_)
            refine q_bipush hC (v := 6) dX11_readsOnce_130 rfl ?_
            refine q_iconst hC dX11_readsOnce_132 rfl ?_
            refine q_iast hC dX11_readsOnce_133 ?_
            refine q_aload_n hC 2 dX11_readsOnce_134 rfl rfl ?_
            refine q_getR hC (by decide) (by decide) rfl w_808 dX11_readsOnce_135 (fun r43 => ?_)
            refine q_bipush hC (v := 7) dX11_readsOnce_138 rfl ?_
            refine q_iload_n hC 0 dX11_readsOnce_140 rfl rfl ?_
            refine q_iast hC dX11_readsOnce_141 ?_
            refine q_goto hC 154 dX11_readsOnce_142 rfl ?_
            exact q_vret hC dX11_readsOnce_154 (Nat.le_of_ble_eq_true rfl) (Nat.le_of_ble_eq_true rfl)
        · exact q_vret hC dX11_readsOnce_120 (Nat.le_of_ble_eq_true rfl) (Nat.le_of_ble_eq_true rfl)
    · refine q_iconst hC dX11_readsOnce_17 rfl ?_
      refine q_goto hC 22 dX11_readsOnce_18 rfl ?_
      refine q_iconst hC dX11_readsOnce_22 rfl ?_
      refine q_cVV hC hnt (stk := []) (as := [.int 1, .int 3]) sX11_needs (ci := 11) (by decide) rfl nX11_needs rfl w_1215 w_1217 w_1218 w_830 w_1216 (Nat.le_of_ble_eq_true rfl) dX11_readsOnce_23 rfl ?_
      refine q_aload_n hC 1 dX11_readsOnce_26 rfl rfl ?_
      refine q_aload_n hC 1 dX11_readsOnce_27 rfl rfl ?_
      refine q_getI hC (by decide) (by decide) rfl w_1253 dX11_readsOnce_28 (fun v44 => ?_)
      refine q_iconst hC dX11_readsOnce_31 rfl ?_
      refine q_iload_n hC 0 dX11_readsOnce_32 rfl rfl ?_
      refine q_ishl hC dX11_readsOnce_33 ?_
      refine q_ior hC dX11_readsOnce_34 ?_
      refine q_putI hC (by decide) (by decide) rfl rfl w_1253 dX11_readsOnce_35 ?_
      refine q_aload_n hC 1 dX11_readsOnce_38 rfl rfl ?_
      refine q_cVV hC hnt (stk := []) (as := []) sX11_goOn (ci := 11) (by decide) rfl nX11_goOn rfl w_1223 w_1225 w_1226 w_830 w_1224 (Nat.le_of_ble_eq_true rfl) dX11_readsOnce_39 rfl ?_
      refine q_iload_n hC 0 dX11_readsOnce_42 rfl rfl ?_
      refine q_iconst hC dX11_readsOnce_43 rfl ?_
      refine q_ic_ne hC 60 dX11_readsOnce_44 rfl ?_ ?_
      · refine q_iload_n hC 0 dX11_readsOnce_60 rfl rfl ?_
        refine q_iconst hC dX11_readsOnce_61 rfl ?_
        refine q_ic_ne hC 76 dX11_readsOnce_62 rfl ?_ ?_
        · refine q_aload_n hC 1 dX11_readsOnce_76 rfl rfl ?_
          refine q_iload_n hC 0 dX11_readsOnce_77 rfl rfl ?_
          refine q_if_ne hC 85 dX11_readsOnce_78 rfl ?_ ?_
          · refine q_iconst hC dX11_readsOnce_85 rfl ?_
            refine q_iload_n hC 0 dX11_readsOnce_86 rfl rfl ?_
            refine q_if_ne hC 96 dX11_readsOnce_87 rfl ?_ ?_
            · refine q_iload_n hC 0 dX11_readsOnce_96 rfl rfl ?_
              refine q_iconst hC dX11_readsOnce_97 rfl ?_
              refine q_ic_ne hC 106 dX11_readsOnce_98 rfl ?_ ?_
              · refine q_sipush hC (v := 999) dX11_readsOnce_106 rfl ?_
                refine q_cVI hC hnt (stk := []) (as := [.int 0, .int 999]) sX11_number (ci := 11) (by decide) rfl nX11_number rfl w_1227 w_1229 w_1230 w_830 w_1228 (Nat.le_of_ble_eq_true rfl) dX11_readsOnce_109 rfl (fun v45 => ?_)
                refine q_istore_nA hC (loc' := [(2, .int v45), (1, .int v1), (0, .ref x0)]) dX11_readsOnce_112 rfl (Nat.le_of_ble_eq_true rfl) rfl ?_
                refine q_aload_n hC 2 dX11_readsOnce_113 rfl rfl ?_
                refine q_cVI hC hnt (stk := []) (as := []) sX11_fine (ci := 11) (by decide) rfl nX11_fine rfl w_1207 w_1209 w_1210 w_830 w_1208 (Nat.le_of_ble_eq_true rfl) dX11_readsOnce_114 rfl (fun v46 => ?_)
                refine q_if_ne hC 121 dX11_readsOnce_117 rfl ?_ ?_
                · refine q_iload_n hC 1 dX11_readsOnce_121 rfl rfl ?_
                  refine q_iconst hC dX11_readsOnce_122 rfl ?_
                  refine q_ic_ne hC 145 dX11_readsOnce_123 rfl ?_ ?_
                  · refine q_aload_n hC 2 dX11_readsOnce_145 rfl rfl ?_
                    refine q_getR hC (by decide) (by decide) rfl w_808 dX11_readsOnce_146 (fun r47 => ?_)
                    refine q_iconst hC dX11_readsOnce_149 rfl ?_
                    refine q_iload_n hC 1 dX11_readsOnce_150 rfl rfl ?_
                    refine q_iadd hC dX11_readsOnce_151 ?_
                    refine q_iload_n hC 0 dX11_readsOnce_152 rfl rfl ?_
                    refine q_iast hC dX11_readsOnce_153 ?_
                    exact q_vret hC dX11_readsOnce_154 (Nat.le_of_ble_eq_true rfl) (Nat.le_of_ble_eq_true rfl)
                  · refine q_aload_n hC 2 dX11_readsOnce_126 rfl rfl ?_
                    refine q_getR hC (by decide) (by decide) rfl w_808 dX11_readsOnce_127 (fun r48 => ?_)
                    refine q_bipush hC (v := 6) dX11_readsOnce_130 rfl ?_
                    refine q_iconst hC dX11_readsOnce_132 rfl ?_
                    refine q_iast hC dX11_readsOnce_133 ?_
                    refine q_aload_n hC 2 dX11_readsOnce_134 rfl rfl ?_
                    refine q_getR hC (by decide) (by decide) rfl w_808 dX11_readsOnce_135 (fun r49 => ?_)
                    refine q_bipush hC (v := 7) dX11_readsOnce_138 rfl ?_
                    refine q_iload_n hC 0 dX11_readsOnce_140 rfl rfl ?_
                    refine q_iast hC dX11_readsOnce_141 ?_
                    refine q_goto hC 154 dX11_readsOnce_142 rfl ?_
                    exact q_vret hC dX11_readsOnce_154 (Nat.le_of_ble_eq_true rfl) (Nat.le_of_ble_eq_true rfl)
                · exact q_vret hC dX11_readsOnce_120 (Nat.le_of_ble_eq_true rfl) (Nat.le_of_ble_eq_true rfl)
              · refine q_bipush hC (v := 99) dX11_readsOnce_101 rfl ?_
                refine q_goto hC 109 dX11_readsOnce_103 rfl ?_
                refine q_cVI hC hnt (stk := []) (as := [.int 0, .int 99]) sX11_number (ci := 11) (by decide) rfl nX11_number rfl w_1227 w_1229 w_1230 w_830 w_1228 (Nat.le_of_ble_eq_true rfl) dX11_readsOnce_109 rfl (fun v50 => ?_)
                refine q_istore_nA hC (loc' := [(2, .int v50), (1, .int v1), (0, .ref x0)]) dX11_readsOnce_112 rfl (Nat.le_of_ble_eq_true rfl) rfl ?_
                refine q_aload_n hC 2 dX11_readsOnce_113 rfl rfl ?_
                refine q_cVI hC hnt (stk := []) (as := []) sX11_fine (ci := 11) (by decide) rfl nX11_fine rfl w_1207 w_1209 w_1210 w_830 w_1208 (Nat.le_of_ble_eq_true rfl) dX11_readsOnce_114 rfl (fun v51 => ?_)
                refine q_if_ne hC 121 dX11_readsOnce_117 rfl ?_ ?_
                · refine q_iload_n hC 1 dX11_readsOnce_121 rfl rfl ?_
                  refine q_iconst hC dX11_readsOnce_122 rfl ?_
                  refine q_ic_ne hC 145 dX11_readsOnce_123 rfl ?_ ?_
                  · refine q_aload_n hC 2 dX11_readsOnce_145 rfl rfl ?_
                    refine q_getR hC (by decide) (by decide) rfl w_808 dX11_readsOnce_146 (fun r52 => ?_)
                    refine q_iconst hC dX11_readsOnce_149 rfl ?_
                    refine q_iload_n hC 1 dX11_readsOnce_150 rfl rfl ?_
                    refine q_iadd hC dX11_readsOnce_151 ?_
                    refine q_iload_n hC 0 dX11_readsOnce_152 rfl rfl ?_
                    refine q_iast hC dX11_readsOnce_153 ?_
                    exact q_vret hC dX11_readsOnce_154 (Nat.le_of_ble_eq_true rfl) (Nat.le_of_ble_eq_true rfl)
                  · refine q_aload_n hC 2 dX11_readsOnce_126 rfl rfl ?_
                    refine q_getR hC (by decide) (by decide) rfl w_808 dX11_readsOnce_127 (fun r53 => ?_)
                    refine q_bipush hC (v := 6) dX11_readsOnce_130 rfl ?_
                    refine q_iconst hC dX11_readsOnce_132 rfl ?_
                    refine q_iast hC dX11_readsOnce_133 ?_
                    refine q_aload_n hC 2 dX11_readsOnce_134 rfl rfl ?_
                    refine q_getR hC (by decide) (by decide) rfl w_808 dX11_readsOnce_135 (fun r54 => ?_)
                    refine q_bipush hC (v := 7) dX11_readsOnce_138 rfl ?_
                    refine q_iload_n hC 0 dX11_readsOnce_140 rfl rfl ?_
                    refine q_iast hC dX11_readsOnce_141 ?_
                    refine q_goto hC 154 dX11_readsOnce_142 rfl ?_
                    exact q_vret hC dX11_readsOnce_154 (Nat.le_of_ble_eq_true rfl) (Nat.le_of_ble_eq_true rfl)
                · exact q_vret hC dX11_readsOnce_120 (Nat.le_of_ble_eq_true rfl) (Nat.le_of_ble_eq_true rfl)
            · refine q_sipush hC (v := 9999) dX11_readsOnce_90 rfl ?_
              refine q_goto hC 109 dX11_readsOnce_93 rfl ?_
              refine q_cVI hC hnt (stk := []) (as := [.int 0, .int 9999]) sX11_number (ci := 11) (by decide) rfl nX11_number rfl w_1227 w_1229 w_1230 w_830 w_1228 (Nat.le_of_ble_eq_true rfl) dX11_readsOnce_109 rfl (fun v55 => ?_)
              refine q_istore_nA hC (loc' := [(2, .int v55), (1, .int v1), (0, .ref x0)]) dX11_readsOnce_112 rfl (Nat.le_of_ble_eq_true rfl) rfl ?_
              refine q_aload_n hC 2 dX11_readsOnce_113 rfl rfl ?_
              refine q_cVI hC hnt (stk := []) (as := []) sX11_fine (ci := 11) (by decide) rfl nX11_fine rfl w_1207 w_1209 w_1210 w_830 w_1208 (Nat.le_of_ble_eq_true rfl) dX11_readsOnce_114 rfl (fun v56 => ?_)
              refine q_if_ne hC 121 dX11_readsOnce_117 rfl ?_ ?_
              · refine q_iload_n hC 1 dX11_readsOnce_121 rfl rfl ?_
                refine q_iconst hC dX11_readsOnce_122 rfl ?_
                refine q_ic_ne hC 145 dX11_readsOnce_123 rfl ?_ ?_
                · refine q_aload_n hC 2 dX11_readsOnce_145 rfl rfl ?_
                  refine q_getR hC (by decide) (by decide) rfl w_808 dX11_readsOnce_146 (fun r57 => ?_)
                  refine q_iconst hC dX11_readsOnce_149 rfl ?_
                  refine q_iload_n hC 1 dX11_readsOnce_150 rfl rfl ?_
                  refine q_iadd hC dX11_readsOnce_151 ?_
                  refine q_iload_n hC 0 dX11_readsOnce_152 rfl rfl ?_
                  refine q_iast hC dX11_readsOnce_153 ?_
                  exact q_vret hC dX11_readsOnce_154 (Nat.le_of_ble_eq_true rfl) (Nat.le_of_ble_eq_true rfl)
                · refine q_aload_n hC 2 dX11_readsOnce_126 rfl rfl ?_
                  refine q_getR hC (by decide) (by decide) rfl w_808 dX11_readsOnce_127 (fun r58 => ?_)
                  refine q_bipush hC (v := 6) dX11_readsOnce_130 rfl ?_
                  refine q_iconst hC dX11_readsOnce_132 rfl ?_
                  refine q_iast hC dX11_readsOnce_133 ?_
                  refine q_aload_n hC 2 dX11_readsOnce_134 rfl rfl ?_
                  refine q_getR hC (by decide) (by decide) rfl w_808 dX11_readsOnce_135 (fun r59 => ?_)
                  refine q_bipush hC (v := 7) dX11_readsOnce_138 rfl ?_
                  refine q_iload_n hC 0 dX11_readsOnce_140 rfl rfl ?_
                  refine q_iast hC dX11_readsOnce_141 ?_
                  refine q_goto hC 154 dX11_readsOnce_142 rfl ?_
                  exact q_vret hC dX11_readsOnce_154 (Nat.le_of_ble_eq_true rfl) (Nat.le_of_ble_eq_true rfl)
              · exact q_vret hC dX11_readsOnce_120 (Nat.le_of_ble_eq_true rfl) (Nat.le_of_ble_eq_true rfl)
          · refine q_iconst hC dX11_readsOnce_81 rfl ?_
            refine q_goto hC 86 dX11_readsOnce_82 rfl ?_
            refine q_iload_n hC 0 dX11_readsOnce_86 rfl rfl ?_
            refine q_if_ne hC 96 dX11_readsOnce_87 rfl ?_ ?_
            · refine q_iload_n hC 0 dX11_readsOnce_96 rfl rfl ?_
              refine q_iconst hC dX11_readsOnce_97 rfl ?_
              refine q_ic_ne hC 106 dX11_readsOnce_98 rfl ?_ ?_
              · refine q_sipush hC (v := 999) dX11_readsOnce_106 rfl ?_
                refine q_cVI hC hnt (stk := []) (as := [.int 1, .int 999]) sX11_number (ci := 11) (by decide) rfl nX11_number rfl w_1227 w_1229 w_1230 w_830 w_1228 (Nat.le_of_ble_eq_true rfl) dX11_readsOnce_109 rfl (fun v60 => ?_)
                refine q_istore_nA hC (loc' := [(2, .int v60), (1, .int v1), (0, .ref x0)]) dX11_readsOnce_112 rfl (Nat.le_of_ble_eq_true rfl) rfl ?_
                refine q_aload_n hC 2 dX11_readsOnce_113 rfl rfl ?_
                refine q_cVI hC hnt (stk := []) (as := []) sX11_fine (ci := 11) (by decide) rfl nX11_fine rfl w_1207 w_1209 w_1210 w_830 w_1208 (Nat.le_of_ble_eq_true rfl) dX11_readsOnce_114 rfl (fun v61 => ?_)
                refine q_if_ne hC 121 dX11_readsOnce_117 rfl ?_ ?_
                · refine q_iload_n hC 1 dX11_readsOnce_121 rfl rfl ?_
                  refine q_iconst hC dX11_readsOnce_122 rfl ?_
                  refine q_ic_ne hC 145 dX11_readsOnce_123 rfl ?_ ?_
                  · refine q_aload_n hC 2 dX11_readsOnce_145 rfl rfl ?_
                    refine q_getR hC (by decide) (by decide) rfl w_808 dX11_readsOnce_146 (fun r62 => ?_)
                    refine q_iconst hC dX11_readsOnce_149 rfl ?_
                    refine q_iload_n hC 1 dX11_readsOnce_150 rfl rfl ?_
                    refine q_iadd hC dX11_readsOnce_151 ?_
                    refine q_iload_n hC 0 dX11_readsOnce_152 rfl rfl ?_
                    refine q_iast hC dX11_readsOnce_153 ?_
                    exact q_vret hC dX11_readsOnce_154 (Nat.le_of_ble_eq_true rfl) (Nat.le_of_ble_eq_true rfl)
                  · refine q_aload_n hC 2 dX11_readsOnce_126 rfl rfl ?_
                    refine q_getR hC (by decide) (by decide) rfl w_808 dX11_readsOnce_127 (fun r63 => ?_)
                    refine q_bipush hC (v := 6) dX11_readsOnce_130 rfl ?_
                    refine q_iconst hC dX11_readsOnce_132 rfl ?_
                    refine q_iast hC dX11_readsOnce_133 ?_
                    refine q_aload_n hC 2 dX11_readsOnce_134 rfl rfl ?_
                    refine q_getR hC (by decide) (by decide) rfl w_808 dX11_readsOnce_135 (fun r64 => ?_)
                    refine q_bipush hC (v := 7) dX11_readsOnce_138 rfl ?_
                    refine q_iload_n hC 0 dX11_readsOnce_140 rfl rfl ?_
                    refine q_iast hC dX11_readsOnce_141 ?_
                    refine q_goto hC 154 dX11_readsOnce_142 rfl ?_
                    exact q_vret hC dX11_readsOnce_154 (Nat.le_of_ble_eq_true rfl) (Nat.le_of_ble_eq_true rfl)
                · exact q_vret hC dX11_readsOnce_120 (Nat.le_of_ble_eq_true rfl) (Nat.le_of_ble_eq_true rfl)
              · refine q_bipush hC (v := 99) dX11_readsOnce_101 rfl ?_
                refine q_goto hC 109 dX11_readsOnce_103 rfl ?_
                refine q_cVI hC hnt (stk := []) (as := [.int 1, .int 99]) sX11_number (ci := 11) (by decide) rfl nX11_number rfl w_1227 w_1229 w_1230 w_830 w_1228 (Nat.le_of_ble_eq_true rfl) dX11_readsOnce_109 rfl (fun v65 => ?_)
                refine q_istore_nA hC (loc' := [(2, .int v65), (1, .int v1), (0, .ref x0)]) dX11_readsOnce_112 rfl (Nat.le_of_ble_eq_true rfl) rfl ?_
                refine q_aload_n hC 2 dX11_readsOnce_113 rfl rfl ?_
                refine q_cVI hC hnt (stk := []) (as := []) sX11_fine (ci := 11) (by decide) rfl nX11_fine rfl w_1207 w_1209 w_1210 w_830 w_1208 (Nat.le_of_ble_eq_true rfl) dX11_readsOnce_114 rfl (fun v66 => ?_)
                refine q_if_ne hC 121 dX11_readsOnce_117 rfl ?_ ?_
                · refine q_iload_n hC 1 dX11_readsOnce_121 rfl rfl ?_
                  refine q_iconst hC dX11_readsOnce_122 rfl ?_
                  refine q_ic_ne hC 145 dX11_readsOnce_123 rfl ?_ ?_
                  · refine q_aload_n hC 2 dX11_readsOnce_145 rfl rfl ?_
                    refine q_getR hC (by decide) (by decide) rfl w_808 dX11_readsOnce_146 (fun r67 => ?_)
                    refine q_iconst hC dX11_readsOnce_149 rfl ?_
                    refine q_iload_n hC 1 dX11_readsOnce_150 rfl rfl ?_
                    refine q_iadd hC dX11_readsOnce_151 ?_
                    refine q_iload_n hC 0 dX11_readsOnce_152 rfl rfl ?_
                    refine q_iast hC dX11_readsOnce_153 ?_
                    exact q_vret hC dX11_readsOnce_154 (Nat.le_of_ble_eq_true rfl) (Nat.le_of_ble_eq_true rfl)
                  · refine q_aload_n hC 2 dX11_readsOnce_126 rfl rfl ?_
                    refine q_getR hC (by decide) (by decide) rfl w_808 dX11_readsOnce_127 (fun r68 => ?_)
                    refine q_bipush hC (v := 6) dX11_readsOnce_130 rfl ?_
                    refine q_iconst hC dX11_readsOnce_132 rfl ?_
                    refine q_iast hC dX11_readsOnce_133 ?_
                    refine q_aload_n hC 2 dX11_readsOnce_134 rfl rfl ?_
                    refine q_getR hC (by decide) (by decide) rfl w_808 dX11_readsOnce_135 (fun r69 => ?_)
                    refine q_bipush hC (v := 7) dX11_readsOnce_138 rfl ?_
                    refine q_iload_n hC 0 dX11_readsOnce_140 rfl rfl ?_
                    refine q_iast hC dX11_readsOnce_141 ?_
                    refine q_goto hC 154 dX11_readsOnce_142 rfl ?_
                    exact q_vret hC dX11_readsOnce_154 (Nat.le_of_ble_eq_true rfl) (Nat.le_of_ble_eq_true rfl)
                · exact q_vret hC dX11_readsOnce_120 (Nat.le_of_ble_eq_true rfl) (Nat.le_of_ble_eq_true rfl)
            · refine q_sipush hC (v := 9999) dX11_readsOnce_90 rfl ?_
              refine q_goto hC 109 dX11_readsOnce_93 rfl ?_
              refine q_cVI hC hnt (stk := []) (as := [.int 1, .int 9999]) sX11_number (ci := 11) (by decide) rfl nX11_number rfl w_1227 w_1229 w_1230 w_830 w_1228 (Nat.le_of_ble_eq_true rfl) dX11_readsOnce_109 rfl (fun v70 => ?_)
              refine q_istore_nA hC (loc' := [(2, .int v70), (1, .int v1), (0, .ref x0)]) dX11_readsOnce_112 rfl (Nat.le_of_ble_eq_true rfl) rfl ?_
              refine q_aload_n hC 2 dX11_readsOnce_113 rfl rfl ?_
              refine q_cVI hC hnt (stk := []) (as := []) sX11_fine (ci := 11) (by decide) rfl nX11_fine rfl w_1207 w_1209 w_1210 w_830 w_1208 (Nat.le_of_ble_eq_true rfl) dX11_readsOnce_114 rfl (fun v71 => ?_)
              refine q_if_ne hC 121 dX11_readsOnce_117 rfl ?_ ?_
              · refine q_iload_n hC 1 dX11_readsOnce_121 rfl rfl ?_
                refine q_iconst hC dX11_readsOnce_122 rfl ?_
                refine q_ic_ne hC 145 dX11_readsOnce_123 rfl ?_ ?_
                · refine q_aload_n hC 2 dX11_readsOnce_145 rfl rfl ?_
                  refine q_getR hC (by decide) (by decide) rfl w_808 dX11_readsOnce_146 (fun r72 => ?_)
                  refine q_iconst hC dX11_readsOnce_149 rfl ?_
                  refine q_iload_n hC 1 dX11_readsOnce_150 rfl rfl ?_
                  refine q_iadd hC dX11_readsOnce_151 ?_
                  refine q_iload_n hC 0 dX11_readsOnce_152 rfl rfl ?_
                  refine q_iast hC dX11_readsOnce_153 ?_
                  exact q_vret hC dX11_readsOnce_154 (Nat.le_of_ble_eq_true rfl) (Nat.le_of_ble_eq_true rfl)
                · refine q_aload_n hC 2 dX11_readsOnce_126 rfl rfl ?_
                  refine q_getR hC (by decide) (by decide) rfl w_808 dX11_readsOnce_127 (fun r73 => ?_)
                  refine q_bipush hC (v := 6) dX11_readsOnce_130 rfl ?_
                  refine q_iconst hC dX11_readsOnce_132 rfl ?_
                  refine q_iast hC dX11_readsOnce_133 ?_
                  refine q_aload_n hC 2 dX11_readsOnce_134 rfl rfl ?_
                  refine q_getR hC (by decide) (by decide) rfl w_808 dX11_readsOnce_135 (fun r74 => ?_)
                  refine q_bipush hC (v := 7) dX11_readsOnce_138 rfl ?_
                  refine q_iload_n hC 0 dX11_readsOnce_140 rfl rfl ?_
                  refine q_iast hC dX11_readsOnce_141 ?_
                  refine q_goto hC 154 dX11_readsOnce_142 rfl ?_
                  exact q_vret hC dX11_readsOnce_154 (Nat.le_of_ble_eq_true rfl) (Nat.le_of_ble_eq_true rfl)
              · exact q_vret hC dX11_readsOnce_120 (Nat.le_of_ble_eq_true rfl) (Nat.le_of_ble_eq_true rfl)
        · refine q_aload_n hC 1 dX11_readsOnce_65 rfl rfl ?_
          refine q_bipush hC (v := (-99)) dX11_readsOnce_66 rfl ?_
          refine q_bipush hC (v := 99) dX11_readsOnce_68 rfl ?_
          refine q_cVI hC hnt (stk := []) (as := [.int (-99), .int 99]) sX11_signed (ci := 11) (by decide) rfl nX11_signed rfl w_1245 w_1247 w_1248 w_830 w_1246 (Nat.le_of_ble_eq_true rfl) dX11_readsOnce_70 rfl (fun v75 => ?_)
          refine q_goto hC 112 dX11_readsOnce_73 rfl ?_
          refine q_istore_nA hC (loc' := [(2, .int v75), (1, .int v1), (0, .ref x0)]) dX11_readsOnce_112 rfl (Nat.le_of_ble_eq_true rfl) rfl ?_
          refine q_aload_n hC 2 dX11_readsOnce_113 rfl rfl ?_
          refine q_cVI hC hnt (stk := []) (as := []) sX11_fine (ci := 11) (by decide) rfl nX11_fine rfl w_1207 w_1209 w_1210 w_830 w_1208 (Nat.le_of_ble_eq_true rfl) dX11_readsOnce_114 rfl (fun v76 => ?_)
          refine q_if_ne hC 121 dX11_readsOnce_117 rfl ?_ ?_
          · refine q_iload_n hC 1 dX11_readsOnce_121 rfl rfl ?_
            refine q_iconst hC dX11_readsOnce_122 rfl ?_
            refine q_ic_ne hC 145 dX11_readsOnce_123 rfl ?_ ?_
            · refine q_aload_n hC 2 dX11_readsOnce_145 rfl rfl ?_
              refine q_getR hC (by decide) (by decide) rfl w_808 dX11_readsOnce_146 (fun r77 => ?_)
              refine q_iconst hC dX11_readsOnce_149 rfl ?_
              refine q_iload_n hC 1 dX11_readsOnce_150 rfl rfl ?_
              refine q_iadd hC dX11_readsOnce_151 ?_
              refine q_iload_n hC 0 dX11_readsOnce_152 rfl rfl ?_
              refine q_iast hC dX11_readsOnce_153 ?_
              exact q_vret hC dX11_readsOnce_154 (Nat.le_of_ble_eq_true rfl) (Nat.le_of_ble_eq_true rfl)
            · refine q_aload_n hC 2 dX11_readsOnce_126 rfl rfl ?_
              refine q_getR hC (by decide) (by decide) rfl w_808 dX11_readsOnce_127 (fun r78 => ?_)
              refine q_bipush hC (v := 6) dX11_readsOnce_130 rfl ?_
              refine q_iconst hC dX11_readsOnce_132 rfl ?_
              refine q_iast hC dX11_readsOnce_133 ?_
              refine q_aload_n hC 2 dX11_readsOnce_134 rfl rfl ?_
              refine q_getR hC (by decide) (by decide) rfl w_808 dX11_readsOnce_135 (fun r79 => ?_)
              refine q_bipush hC (v := 7) dX11_readsOnce_138 rfl ?_
              refine q_iload_n hC 0 dX11_readsOnce_140 rfl rfl ?_
              refine q_iast hC dX11_readsOnce_141 ?_
              refine q_goto hC 154 dX11_readsOnce_142 rfl ?_
              exact q_vret hC dX11_readsOnce_154 (Nat.le_of_ble_eq_true rfl) (Nat.le_of_ble_eq_true rfl)
          · exact q_vret hC dX11_readsOnce_120 (Nat.le_of_ble_eq_true rfl) (Nat.le_of_ble_eq_true rfl)
      · refine q_aload_n hC 1 dX11_readsOnce_47 rfl rfl ?_
        refine q_sipush hC (v := (-999)) dX11_readsOnce_48 rfl ?_
        refine q_sipush hC (v := 999) dX11_readsOnce_51 rfl ?_
        refine q_cVI hC hnt (stk := []) (as := [.int (-999), .int 999]) sX11_signed (ci := 11) (by decide) rfl nX11_signed rfl w_1245 w_1247 w_1248 w_830 w_1246 (Nat.le_of_ble_eq_true rfl) dX11_readsOnce_54 rfl (fun v80 => ?_)
        refine q_goto hC 112 dX11_readsOnce_57 rfl ?_
        refine q_istore_nA hC (loc' := [(2, .int v80), (1, .int v1), (0, .ref x0)]) dX11_readsOnce_112 rfl (Nat.le_of_ble_eq_true rfl) rfl ?_
        refine q_aload_n hC 2 dX11_readsOnce_113 rfl rfl ?_
        refine q_cVI hC hnt (stk := []) (as := []) sX11_fine (ci := 11) (by decide) rfl nX11_fine rfl w_1207 w_1209 w_1210 w_830 w_1208 (Nat.le_of_ble_eq_true rfl) dX11_readsOnce_114 rfl (fun v81 => ?_)
        refine q_if_ne hC 121 dX11_readsOnce_117 rfl ?_ ?_
        · refine q_iload_n hC 1 dX11_readsOnce_121 rfl rfl ?_
          refine q_iconst hC dX11_readsOnce_122 rfl ?_
          refine q_ic_ne hC 145 dX11_readsOnce_123 rfl ?_ ?_
          · refine q_aload_n hC 2 dX11_readsOnce_145 rfl rfl ?_
            refine q_getR hC (by decide) (by decide) rfl w_808 dX11_readsOnce_146 (fun r82 => ?_)
            refine q_iconst hC dX11_readsOnce_149 rfl ?_
            refine q_iload_n hC 1 dX11_readsOnce_150 rfl rfl ?_
            refine q_iadd hC dX11_readsOnce_151 ?_
            refine q_iload_n hC 0 dX11_readsOnce_152 rfl rfl ?_
            refine q_iast hC dX11_readsOnce_153 ?_
            exact q_vret hC dX11_readsOnce_154 (Nat.le_of_ble_eq_true rfl) (Nat.le_of_ble_eq_true rfl)
          · refine q_aload_n hC 2 dX11_readsOnce_126 rfl rfl ?_
            refine q_getR hC (by decide) (by decide) rfl w_808 dX11_readsOnce_127 (fun r83 => ?_)
            refine q_bipush hC (v := 6) dX11_readsOnce_130 rfl ?_
            refine q_iconst hC dX11_readsOnce_132 rfl ?_
            refine q_iast hC dX11_readsOnce_133 ?_
            refine q_aload_n hC 2 dX11_readsOnce_134 rfl rfl ?_
            refine q_getR hC (by decide) (by decide) rfl w_808 dX11_readsOnce_135 (fun r84 => ?_)
            refine q_bipush hC (v := 7) dX11_readsOnce_138 rfl ?_
            refine q_iload_n hC 0 dX11_readsOnce_140 rfl rfl ?_
            refine q_iast hC dX11_readsOnce_141 ?_
            refine q_goto hC 154 dX11_readsOnce_142 rfl ?_
            exact q_vret hC dX11_readsOnce_154 (Nat.le_of_ble_eq_true rfl) (Nat.le_of_ble_eq_true rfl)
        · exact q_vret hC dX11_readsOnce_120 (Nat.le_of_ble_eq_true rfl) (Nat.le_of_ble_eq_true rfl)
  · exact c_no
theorem sX11_readsOnce : Snd yX11_readsOnce (.code yX11_readsOnce cX11_readsOnce 3 none) rmX11_readsOnce SX11_readsOnce := by
  refine Snd.of lX11_readsOnce (by decide +kernel) (fun _ => rfl) ?_
  intro Γ hC hnt hnm J hJ L a
  match L with
  | 0 => exact pX11_readsOnce_0 hC hnt J hJ a
  | L + 1 => exact c_no
/-! SpiritWallModel.statement()V -/
theorem dX11_statement_0 : decode cX11_statement 0 = .ok (.aload_n 0, 1) := by decide +kernel
theorem dX11_statement_1 : decode cX11_statement 1 = .ok (.getfield 406, 3) := by decide +kernel
theorem dX11_statement_4 : decode cX11_statement 4 = .ok (.iconst 1, 1) := by decide +kernel
theorem dX11_statement_5 : decode cX11_statement 5 = .ok (.if_icmp .ne 25, 3) := by decide +kernel
theorem dX11_statement_8 : decode cX11_statement 8 = .ok (.aload_n 0, 1) := by decide +kernel
theorem dX11_statement_9 : decode cX11_statement 9 = .ok (.getfield 415, 3) := by decide +kernel
theorem dX11_statement_12 : decode cX11_statement 12 = .ok (.i2l, 1) := by decide +kernel
theorem dX11_statement_13 : decode cX11_statement 13 = .ok (.lconst 0, 1) := by decide +kernel
theorem dX11_statement_14 : decode cX11_statement 14 = .ok (.ldc2_w 275, 3) := by decide +kernel
theorem dX11_statement_17 : decode cX11_statement 17 = .ok (.invokestatic 89, 3) := by decide +kernel
theorem dX11_statement_20 : decode cX11_statement 20 = .ok (.ifCond .eq 10, 3) := by decide +kernel
theorem dX11_statement_23 : decode cX11_statement 23 = .ok (.aload_n 0, 1) := by decide +kernel
theorem dX11_statement_24 : decode cX11_statement 24 = .ok (.invokevirtual 484, 3) := by decide +kernel
theorem dX11_statement_27 : decode cX11_statement 27 = .ok (.goto 40, 3) := by decide +kernel
theorem dX11_statement_30 : decode cX11_statement 30 = .ok (.aload_n 0, 1) := by decide +kernel
theorem dX11_statement_31 : decode cX11_statement 31 = .ok (.iconst 5, 1) := by decide +kernel
theorem dX11_statement_32 : decode cX11_statement 32 = .ok (.invokevirtual 471, 3) := by decide +kernel
theorem dX11_statement_35 : decode cX11_statement 35 = .ok (.ifCond .eq 10, 3) := by decide +kernel
theorem dX11_statement_38 : decode cX11_statement 38 = .ok (.aload_n 0, 1) := by decide +kernel
theorem dX11_statement_39 : decode cX11_statement 39 = .ok (.invokevirtual 487, 3) := by decide +kernel
theorem dX11_statement_42 : decode cX11_statement 42 = .ok (.goto 25, 3) := by decide +kernel
theorem dX11_statement_45 : decode cX11_statement 45 = .ok (.aload_n 0, 1) := by decide +kernel
theorem dX11_statement_46 : decode cX11_statement 46 = .ok (.bipush 6, 2) := by decide +kernel
theorem dX11_statement_48 : decode cX11_statement 48 = .ok (.invokevirtual 471, 3) := by decide +kernel
theorem dX11_statement_51 : decode cX11_statement 51 = .ok (.ifCond .eq 10, 3) := by decide +kernel
theorem dX11_statement_54 : decode cX11_statement 54 = .ok (.aload_n 0, 1) := by decide +kernel
theorem dX11_statement_55 : decode cX11_statement 55 = .ok (.invokevirtual 490, 3) := by decide +kernel
theorem dX11_statement_58 : decode cX11_statement 58 = .ok (.goto 9, 3) := by decide +kernel
theorem dX11_statement_61 : decode cX11_statement 61 = .ok (.aload_n 0, 1) := by decide +kernel
theorem dX11_statement_62 : decode cX11_statement 62 = .ok (.iconst 0, 1) := by decide +kernel
theorem dX11_statement_63 : decode cX11_statement 63 = .ok (.iconst 1, 1) := by decide +kernel
theorem dX11_statement_64 : decode cX11_statement 64 = .ok (.invokevirtual 451, 3) := by decide +kernel
theorem dX11_statement_67 : decode cX11_statement 67 = .ok (.aload_n 0, 1) := by decide +kernel
theorem dX11_statement_68 : decode cX11_statement 68 = .ok (.aload_n 0, 1) := by decide +kernel
theorem dX11_statement_69 : decode cX11_statement 69 = .ok (.getfield 406, 3) := by decide +kernel
theorem dX11_statement_72 : decode cX11_statement 72 = .ok (.iconst 3, 1) := by decide +kernel
theorem dX11_statement_73 : decode cX11_statement 73 = .ok (.if_icmp .ne 7, 3) := by decide +kernel
theorem dX11_statement_76 : decode cX11_statement 76 = .ok (.iconst 1, 1) := by decide +kernel
theorem dX11_statement_77 : decode cX11_statement 77 = .ok (.goto 4, 3) := by decide +kernel
theorem dX11_statement_80 : decode cX11_statement 80 = .ok (.iconst 0, 1) := by decide +kernel
theorem dX11_statement_81 : decode cX11_statement 81 = .ok (.iconst 1, 1) := by decide +kernel
theorem dX11_statement_82 : decode cX11_statement 82 = .ok (.invokevirtual 451, 3) := by decide +kernel
theorem dX11_statement_85 : decode cX11_statement 85 = .ok (.aload_n 0, 1) := by decide +kernel
theorem dX11_statement_86 : decode cX11_statement 86 = .ok (.invokevirtual 458, 3) := by decide +kernel
theorem dX11_statement_89 : decode cX11_statement 89 = .ok (.return_, 1) := by decide +kernel
def rmX11_statement : Room := rmk 27 0 0 759
theorem nX11_statement : nameOk yX11_statement 0 = true := by decide +kernel
def bX11_statement_0 (J : JT) : List Value → Sem
  | [.ref x0] =>
    gI 11 24 x0 fun v1 =>
    br (v1 = (1 : Int32))
    (gI 11 25 x0 fun v2 =>
    cI SX11_isIn [.long (v2.toInt64), .long 0, .long 4] fun v3 =>
    br (v3 = 0)
    (J 1 [.ref x0])
    (ob 11 x0 (cV SX11_readsOnce [.ref x0] <|
    J 2 [.ref x0])))
    (J 1 [.ref x0])
  | _ => no
def bX11_statement_1 (J : JT) : List Value → Sem
  | [.ref x0] =>
    ob 11 x0 (cI SX11_isWord [.ref x0, .int 5] fun v1 =>
    br (v1 = 0)
    (ob 11 x0 (cI SX11_isWord [.ref x0, .int 6] fun v2 =>
    br (v2 = 0)
    (ob 11 x0 (cV SX11_needs [.ref x0, .int 0, .int 1] <|
    J 2 [.ref x0]))
    (ob 11 x0 (cV SX11_readsSight [.ref x0] <|
    J 2 [.ref x0]))))
    (ob 11 x0 (cV SX11_readsMark [.ref x0] <|
    J 2 [.ref x0])))
  | _ => no
def bX11_statement_2 (J : JT) : List Value → Sem
  | [.ref x0] =>
    gI 11 24 x0 fun v1 =>
    br (v1 = (3 : Int32))
    (ob 11 x0 (cV SX11_needs [.ref x0, .int 1, .int 1] <|
    ob 11 x0 (cV SX11_goOn [.ref x0] <|
    rV)))
    (ob 11 x0 (cV SX11_needs [.ref x0, .int 0, .int 1] <|
    ob 11 x0 (cV SX11_goOn [.ref x0] <|
    rV)))
  | _ => no
def bX11_statement (J : JT) : JT := fun L a => match L with
  | 0 => bX11_statement_0 J a
  | 1 => bX11_statement_1 J a
  | 2 => bX11_statement_2 J a
  | _ => no
def SX11_statement : ST := mk 1 bX11_statement
def lX11_statement (L : Nat) (a : List Value) : Nat × Nat × Nat × List (Nat × Value) × List Value := match L with
  | 0 => (0, 0, 0, lv_args 0 a, [])
  | 1 => (0, 0, 30, List.zip [0] a, [])
  | 2 => (0, 0, 67, List.zip [0] a, [])
  | _ => (0, 0, 0, [], [])
theorem pX11_statement_0 {Γ : CT} (hC : Ctx Γ "SpiritWallModel" cX11_statement 1 none rmX11_statement) (hnt : NT Γ) (J : JT) (hJ : ∀ L a, Cor Γ 1 (lX11_statement L a).1 (lX11_statement L a).2.1 (lX11_statement L a).2.2.1 (lX11_statement L a).2.2.2.1 (lX11_statement L a).2.2.2.2 (J L a)) (a : List Value) : Cor Γ 1 0 0 0 (lv_args 0 a) [] (bX11_statement_0 J a) := by
  unfold bX11_statement_0
  split
  · rename_i x0
    refine c_sub [0] rfl (loc' := [(0, .ref x0)]) ?_
    refine q_aload_n hC 0 dX11_statement_0 rfl rfl ?_
    refine q_getI hC (by decide) (by decide) rfl w_1191 dX11_statement_1 (fun v1 => ?_)
    refine q_iconst hC dX11_statement_4 rfl ?_
    refine q_ic_ne hC 30 dX11_statement_5 rfl ?_ ?_
    · exact c_sub [0] rfl (hJ 1 [.ref x0])
    · refine q_aload_n hC 0 dX11_statement_8 rfl rfl ?_
      refine q_getI hC (by decide) (by decide) rfl w_1197 dX11_statement_9 (fun v2 => ?_)
      refine q_i2l hC dX11_statement_12 ?_
      refine q_lconst hC (v := 0) dX11_statement_13 rfl ?_
      refine q_ldc2 hC w_1056 dX11_statement_14 ?_
      refine q_cSI hC hnt (stk := []) (as := [.long (v2.toInt64), .long 0, .long 4]) sX11_isIn nX11_isIn rfl w_847 w_849 w_830 w_848 (Nat.le_of_ble_eq_true rfl) dX11_statement_17 rfl (fun v3 => ?_)
      refine q_if_eq hC 30 dX11_statement_20 rfl ?_ ?_
      · exact c_sub [0] rfl (hJ 1 [.ref x0])
      · refine q_aload_n hC 0 dX11_statement_23 rfl rfl ?_
        refine q_cVV hC hnt (stk := []) (as := []) sX11_readsOnce (ci := 11) (by decide) rfl nX11_readsOnce rfl w_1254 w_1256 w_1257 w_830 w_1255 (Nat.le_of_ble_eq_true rfl) dX11_statement_24 rfl ?_
        refine q_goto hC 67 dX11_statement_27 rfl ?_
        exact c_sub [0] rfl (hJ 2 [.ref x0])
  · exact c_no
theorem pX11_statement_1 {Γ : CT} (hC : Ctx Γ "SpiritWallModel" cX11_statement 1 none rmX11_statement) (hnt : NT Γ) (J : JT) (hJ : ∀ L a, Cor Γ 1 (lX11_statement L a).1 (lX11_statement L a).2.1 (lX11_statement L a).2.2.1 (lX11_statement L a).2.2.2.1 (lX11_statement L a).2.2.2.2 (J L a)) (a : List Value) : Cor Γ 1 0 0 30 (List.zip [0] a) [] (bX11_statement_1 J a) := by
  unfold bX11_statement_1
  split
  · rename_i x0
    refine c_sub [0] rfl (loc' := [(0, .ref x0)]) ?_
    refine q_aload_n hC 0 dX11_statement_30 rfl rfl ?_
    refine q_iconst hC dX11_statement_31 rfl ?_
    refine q_cVI hC hnt (stk := []) (as := [.int 5]) sX11_isWord (ci := 11) (by decide) rfl nX11_isWord rfl w_1236 w_1238 w_1239 w_830 w_1237 (Nat.le_of_ble_eq_true rfl) dX11_statement_32 rfl (fun v1 => ?_)
    refine q_if_eq hC 45 dX11_statement_35 rfl ?_ ?_
    · refine q_aload_n hC 0 dX11_statement_45 rfl rfl ?_
      refine q_bipush hC (v := 6) dX11_statement_46 rfl ?_
      refine q_cVI hC hnt (stk := []) (as := [.int 6]) sX11_isWord (ci := 11) (by decide) rfl nX11_isWord rfl w_1236 w_1238 w_1239 w_830 w_1237 (Nat.le_of_ble_eq_true rfl) dX11_statement_48 rfl (fun v2 => ?_)
      refine q_if_eq hC 61 dX11_statement_51 rfl ?_ ?_
      · refine q_aload_n hC 0 dX11_statement_61 rfl rfl ?_
        refine q_iconst hC dX11_statement_62 rfl ?_
        refine q_iconst hC dX11_statement_63 rfl ?_
        refine q_cVV hC hnt (stk := []) (as := [.int 0, .int 1]) sX11_needs (ci := 11) (by decide) rfl nX11_needs rfl w_1215 w_1217 w_1218 w_830 w_1216 (Nat.le_of_ble_eq_true rfl) dX11_statement_64 rfl ?_
        exact c_sub [0] rfl (hJ 2 [.ref x0])
      · refine q_aload_n hC 0 dX11_statement_54 rfl rfl ?_
        refine q_cVV hC hnt (stk := []) (as := []) sX11_readsSight (ci := 11) (by decide) rfl nX11_readsSight rfl w_1258 w_1260 w_1261 w_830 w_1259 (Nat.le_of_ble_eq_true rfl) dX11_statement_55 rfl ?_
        refine q_goto hC 67 dX11_statement_58 rfl ?_
        exact c_sub [0] rfl (hJ 2 [.ref x0])
    · refine q_aload_n hC 0 dX11_statement_38 rfl rfl ?_
      refine q_cVV hC hnt (stk := []) (as := []) sX11_readsMark (ci := 11) (by decide) rfl nX11_readsMark rfl w_1262 w_1264 w_1265 w_830 w_1263 (Nat.le_of_ble_eq_true rfl) dX11_statement_39 rfl ?_
      refine q_goto hC 67 dX11_statement_42 rfl ?_
      exact c_sub [0] rfl (hJ 2 [.ref x0])
  · exact c_no
theorem pX11_statement_2 {Γ : CT} (hC : Ctx Γ "SpiritWallModel" cX11_statement 1 none rmX11_statement) (hnt : NT Γ) (J : JT) (hJ : ∀ L a, Cor Γ 1 (lX11_statement L a).1 (lX11_statement L a).2.1 (lX11_statement L a).2.2.1 (lX11_statement L a).2.2.2.1 (lX11_statement L a).2.2.2.2 (J L a)) (a : List Value) : Cor Γ 1 0 0 67 (List.zip [0] a) [] (bX11_statement_2 J a) := by
  unfold bX11_statement_2
  split
  · rename_i x0
    refine c_sub [0] rfl (loc' := [(0, .ref x0)]) ?_
    refine q_aload_n hC 0 dX11_statement_67 rfl rfl ?_
    refine q_aload_n hC 0 dX11_statement_68 rfl rfl ?_
    refine q_getI hC (by decide) (by decide) rfl w_1191 dX11_statement_69 (fun v1 => ?_)
    refine q_iconst hC dX11_statement_72 rfl ?_
    refine q_ic_ne hC 80 dX11_statement_73 rfl ?_ ?_
    · refine q_iconst hC dX11_statement_80 rfl ?_
      refine q_iconst hC dX11_statement_81 rfl ?_
      refine q_cVV hC hnt (stk := []) (as := [.int 0, .int 1]) sX11_needs (ci := 11) (by decide) rfl nX11_needs rfl w_1215 w_1217 w_1218 w_830 w_1216 (Nat.le_of_ble_eq_true rfl) dX11_statement_82 rfl ?_
      refine q_aload_n hC 0 dX11_statement_85 rfl rfl ?_
      refine q_cVV hC hnt (stk := []) (as := []) sX11_goOn (ci := 11) (by decide) rfl nX11_goOn rfl w_1223 w_1225 w_1226 w_830 w_1224 (Nat.le_of_ble_eq_true rfl) dX11_statement_86 rfl ?_
      exact q_vret hC dX11_statement_89 (Nat.le_of_ble_eq_true rfl) (Nat.le_of_ble_eq_true rfl)
    · refine q_iconst hC dX11_statement_76 rfl ?_
      refine q_goto hC 81 dX11_statement_77 rfl ?_
      refine q_iconst hC dX11_statement_81 rfl ?_
      refine q_cVV hC hnt (stk := []) (as := [.int 1, .int 1]) sX11_needs (ci := 11) (by decide) rfl nX11_needs rfl w_1215 w_1217 w_1218 w_830 w_1216 (Nat.le_of_ble_eq_true rfl) dX11_statement_82 rfl ?_
      refine q_aload_n hC 0 dX11_statement_85 rfl rfl ?_
      refine q_cVV hC hnt (stk := []) (as := []) sX11_goOn (ci := 11) (by decide) rfl nX11_goOn rfl w_1223 w_1225 w_1226 w_830 w_1224 (Nat.le_of_ble_eq_true rfl) dX11_statement_86 rfl ?_
      exact q_vret hC dX11_statement_89 (Nat.le_of_ble_eq_true rfl) (Nat.le_of_ble_eq_true rfl)
  · exact c_no
theorem sX11_statement : Snd yX11_statement (.code yX11_statement cX11_statement 1 none) rmX11_statement SX11_statement := by
  refine Snd.of lX11_statement (by decide +kernel) (fun _ => rfl) ?_
  intro Γ hC hnt hnm J hJ L a
  match L with
  | 0 => exact pX11_statement_0 hC hnt J hJ a
  | 1 => exact pX11_statement_1 hC hnt J hJ a
  | 2 => exact pX11_statement_2 hC hnt J hJ a
  | L + 3 => exact c_no
/-! SpiritWallModel.parse()I -/
theorem dX11_parse_0 : decode cX11_parse 0 = .ok (.aload_n 0, 1) := by decide +kernel
theorem dX11_parse_1 : decode cX11_parse 1 = .ok (.iconst 0, 1) := by decide +kernel
theorem dX11_parse_2 : decode cX11_parse 2 = .ok (.putfield 67, 3) := by decide +kernel
theorem dX11_parse_5 : decode cX11_parse 5 = .ok (.aload_n 0, 1) := by decide +kernel
theorem dX11_parse_6 : decode cX11_parse 6 = .ok (.iconst 0, 1) := by decide +kernel
theorem dX11_parse_7 : decode cX11_parse 7 = .ok (.putfield 441, 3) := by decide +kernel
theorem dX11_parse_10 : decode cX11_parse 10 = .ok (.aload_n 0, 1) := by decide +kernel
theorem dX11_parse_11 : decode cX11_parse 11 = .ok (.iconst (-1), 1) := by decide +kernel
theorem dX11_parse_12 : decode cX11_parse 12 = .ok (.putfield 57, 3) := by decide +kernel
theorem dX11_parse_15 : decode cX11_parse 15 = .ok (.aload_n 0, 1) := by decide +kernel
theorem dX11_parse_16 : decode cX11_parse 16 = .ok (.getfield 7, 3) := by decide +kernel
theorem dX11_parse_19 : decode cX11_parse 19 = .ok (.aload_n 0, 1) := by decide +kernel
theorem dX11_parse_20 : decode cX11_parse 20 = .ok (.getfield 19, 3) := by decide +kernel
theorem dX11_parse_23 : decode cX11_parse 23 = .ok (.invokestatic 70, 3) := by decide +kernel
theorem dX11_parse_26 : decode cX11_parse 26 = .ok (.aload_n 0, 1) := by decide +kernel
theorem dX11_parse_27 : decode cX11_parse 27 = .ok (.invokevirtual 64, 3) := by decide +kernel
theorem dX11_parse_30 : decode cX11_parse 30 = .ok (.aload_n 0, 1) := by decide +kernel
theorem dX11_parse_31 : decode cX11_parse 31 = .ok (.iconst 0, 1) := by decide +kernel
theorem dX11_parse_32 : decode cX11_parse 32 = .ok (.putfield 481, 3) := by decide +kernel
theorem dX11_parse_35 : decode cX11_parse 35 = .ok (.aload_n 0, 1) := by decide +kernel
theorem dX11_parse_36 : decode cX11_parse 36 = .ok (.aload_n 0, 1) := by decide +kernel
theorem dX11_parse_37 : decode cX11_parse 37 = .ok (.getfield 387, 3) := by decide +kernel
theorem dX11_parse_40 : decode cX11_parse 40 = .ok (.putfield 390, 3) := by decide +kernel
theorem dX11_parse_43 : decode cX11_parse 43 = .ok (.aload_n 0, 1) := by decide +kernel
theorem dX11_parse_44 : decode cX11_parse 44 = .ok (.iconst 0, 1) := by decide +kernel
theorem dX11_parse_45 : decode cX11_parse 45 = .ok (.putfield 387, 3) := by decide +kernel
theorem dX11_parse_48 : decode cX11_parse 48 = .ok (.aload_n 0, 1) := by decide +kernel
theorem dX11_parse_49 : decode cX11_parse 49 = .ok (.iconst 0, 1) := by decide +kernel
theorem dX11_parse_50 : decode cX11_parse 50 = .ok (.putfield 400, 3) := by decide +kernel
theorem dX11_parse_53 : decode cX11_parse 53 = .ok (.aload_n 0, 1) := by decide +kernel
theorem dX11_parse_54 : decode cX11_parse 54 = .ok (.invokevirtual 448, 3) := by decide +kernel
theorem dX11_parse_57 : decode cX11_parse 57 = .ok (.aload_n 0, 1) := by decide +kernel
theorem dX11_parse_58 : decode cX11_parse 58 = .ok (.invokevirtual 444, 3) := by decide +kernel
theorem dX11_parse_61 : decode cX11_parse 61 = .ok (.ifCond .eq 17, 3) := by decide +kernel
theorem dX11_parse_64 : decode cX11_parse 64 = .ok (.aload_n 0, 1) := by decide +kernel
theorem dX11_parse_65 : decode cX11_parse 65 = .ok (.getfield 406, 3) := by decide +kernel
theorem dX11_parse_68 : decode cX11_parse 68 = .ok (.ifCond .eq 10, 3) := by decide +kernel
theorem dX11_parse_71 : decode cX11_parse 71 = .ok (.aload_n 0, 1) := by decide +kernel
theorem dX11_parse_72 : decode cX11_parse 72 = .ok (.invokevirtual 493, 3) := by decide +kernel
theorem dX11_parse_75 : decode cX11_parse 75 = .ok (.goto (-18), 3) := by decide +kernel
theorem dX11_parse_78 : decode cX11_parse 78 = .ok (.aload_n 0, 1) := by decide +kernel
theorem dX11_parse_79 : decode cX11_parse 79 = .ok (.invokevirtual 444, 3) := by decide +kernel
theorem dX11_parse_82 : decode cX11_parse 82 = .ok (.ifCond .ne 16, 3) := by decide +kernel
theorem dX11_parse_85 : decode cX11_parse 85 = .ok (.aload_n 0, 1) := by decide +kernel
theorem dX11_parse_86 : decode cX11_parse 86 = .ok (.getfield 19, 3) := by decide +kernel
theorem dX11_parse_89 : decode cX11_parse 89 = .ok (.aload_n 0, 1) := by decide +kernel
theorem dX11_parse_90 : decode cX11_parse 90 = .ok (.getfield 7, 3) := by decide +kernel
theorem dX11_parse_93 : decode cX11_parse 93 = .ok (.invokestatic 70, 3) := by decide +kernel
theorem dX11_parse_96 : decode cX11_parse 96 = .ok (.iconst (-1), 1) := by decide +kernel
theorem dX11_parse_97 : decode cX11_parse 97 = .ok (.ireturn, 1) := by decide +kernel
theorem dX11_parse_98 : decode cX11_parse 98 = .ok (.aload_n 0, 1) := by decide +kernel
theorem dX11_parse_99 : decode cX11_parse 99 = .ok (.iconst 0, 1) := by decide +kernel
theorem dX11_parse_100 : decode cX11_parse 100 = .ok (.putfield 74, 3) := by decide +kernel
theorem dX11_parse_103 : decode cX11_parse 103 = .ok (.aload_n 0, 1) := by decide +kernel
theorem dX11_parse_104 : decode cX11_parse 104 = .ok (.iconst 0, 1) := by decide +kernel
theorem dX11_parse_105 : decode cX11_parse 105 = .ok (.putfield 81, 3) := by decide +kernel
theorem dX11_parse_108 : decode cX11_parse 108 = .ok (.aload_n 0, 1) := by decide +kernel
theorem dX11_parse_109 : decode cX11_parse 109 = .ok (.invokevirtual 85, 3) := by decide +kernel
theorem dX11_parse_112 : decode cX11_parse 112 = .ok (.ireturn, 1) := by decide +kernel
def rmX11_parse : Room := rmk 28 0 0 779
theorem nX11_parse : nameOk yX11_parse 0 = true := by decide +kernel
def bX11_parse_0 (J : JT) : List Value → Sem
  | [.ref x0] =>
    pI 11 0 x0 0 <|
    pI 11 27 x0 0 <|
    pI 11 28 x0 (-1) <|
    gR 11 1 x0 fun r1 =>
    gR 11 4 x0 fun r2 =>
    cV SX11_copies [.ref r1, .ref r2] <|
    ob 11 x0 (cV SX11_resets [.ref x0] <|
    pI 11 29 x0 0 <|
    gI 11 20 x0 fun v3 =>
    pI 11 21 x0 v3 <|
    pI 11 20 x0 0 <|
    pI 11 22 x0 0 <|
    ob 11 x0 (cV SX11_next [.ref x0] <|
    J 1 [.ref x0]))
  | _ => no
def bX11_parse_1 (J : JT) : List Value → Sem
  | [.ref x0] =>
    ob 11 x0 (cI SX11_fine [.ref x0] fun v1 =>
    br (v1 = 0)
    (J 2 [.ref x0])
    (gI 11 24 x0 fun v2 =>
    br (v2 = 0)
    (J 2 [.ref x0])
    (ob 11 x0 (cV SX11_statement [.ref x0] <|
    J 1 [.ref x0]))))
  | _ => no
def bX11_parse_2 (J : JT) : List Value → Sem
  | [.ref x0] =>
    ob 11 x0 (cI SX11_fine [.ref x0] fun v1 =>
    br (v1 = 0)
    (gR 11 4 x0 fun r3 =>
    gR 11 1 x0 fun r4 =>
    cV SX11_copies [.ref r3, .ref r4] <|
    rI (-1))
    (pI 11 7 x0 0 <|
    pZ 11 8 x0 0 <|
    ob 11 x0 (cI SX11_marks [.ref x0] fun v2 =>
    rI v2)))
  | _ => no
def bX11_parse (J : JT) : JT := fun L a => match L with
  | 0 => bX11_parse_0 J a
  | 1 => bX11_parse_1 J a
  | 2 => bX11_parse_2 J a
  | _ => no
def SX11_parse : ST := mk 1 bX11_parse
def lX11_parse (L : Nat) (a : List Value) : Nat × Nat × Nat × List (Nat × Value) × List Value := match L with
  | 0 => (0, 0, 0, lv_args 0 a, [])
  | 1 => (0, 0, 57, List.zip [0] a, [])
  | 2 => (0, 0, 78, List.zip [0] a, [])
  | _ => (0, 0, 0, [], [])
theorem pX11_parse_0 {Γ : CT} (hC : Ctx Γ "SpiritWallModel" cX11_parse 1 (some .int) rmX11_parse) (hnt : NT Γ) (J : JT) (hJ : ∀ L a, Cor Γ 1 (lX11_parse L a).1 (lX11_parse L a).2.1 (lX11_parse L a).2.2.1 (lX11_parse L a).2.2.2.1 (lX11_parse L a).2.2.2.2 (J L a)) (a : List Value) : Cor Γ 1 0 0 0 (lv_args 0 a) [] (bX11_parse_0 J a) := by
  unfold bX11_parse_0
  split
  · rename_i x0
    refine c_sub [0] rfl (loc' := [(0, .ref x0)]) ?_
    refine q_aload_n hC 0 dX11_parse_0 rfl rfl ?_
    refine q_iconst hC dX11_parse_1 rfl ?_
    refine q_putI hC (by decide) (by decide) rfl rfl w_833 dX11_parse_2 ?_
    refine q_aload_n hC 0 dX11_parse_5 rfl rfl ?_
    refine q_iconst hC dX11_parse_6 rfl ?_
    refine q_putI hC (by decide) (by decide) rfl rfl w_1206 dX11_parse_7 ?_
    refine q_aload_n hC 0 dX11_parse_10 rfl rfl ?_
    refine q_iconst hC dX11_parse_11 rfl ?_
    refine q_putI hC (by decide) (by decide) rfl rfl w_824 dX11_parse_12 ?_
    refine q_aload_n hC 0 dX11_parse_15 rfl rfl ?_
    refine q_getR hC (by decide) (by decide) rfl w_808 dX11_parse_16 (fun r1 => ?_)
    refine q_aload_n hC 0 dX11_parse_19 rfl rfl ?_
    refine q_getR hC (by decide) (by decide) rfl w_812 dX11_parse_20 (fun r2 => ?_)
    refine q_cSV hC hnt (stk := []) (as := [.ref r1, .ref r2]) sX11_copies nX11_copies rfl w_834 w_836 w_830 w_835 (Nat.le_of_ble_eq_true rfl) dX11_parse_23 rfl ?_
    refine q_aload_n hC 0 dX11_parse_26 rfl rfl ?_
    refine q_cVV hC hnt (stk := []) (as := []) sX11_resets (ci := 11) (by decide) rfl nX11_resets rfl w_826 w_828 w_829 w_830 w_827 (Nat.le_of_ble_eq_true rfl) dX11_parse_27 rfl ?_
    refine q_aload_n hC 0 dX11_parse_30 rfl rfl ?_
    refine q_iconst hC dX11_parse_31 rfl ?_
    refine q_putI hC (by decide) (by decide) rfl rfl w_1253 dX11_parse_32 ?_
    refine q_aload_n hC 0 dX11_parse_35 rfl rfl ?_
    refine q_aload_n hC 0 dX11_parse_36 rfl rfl ?_
    refine q_getI hC (by decide) (by decide) rfl w_1173 dX11_parse_37 (fun v3 => ?_)
    refine q_putI hC (by decide) (by decide) rfl rfl w_1174 dX11_parse_40 ?_
    refine q_aload_n hC 0 dX11_parse_43 rfl rfl ?_
    refine q_iconst hC dX11_parse_44 rfl ?_
    refine q_putI hC (by decide) (by decide) rfl rfl w_1173 dX11_parse_45 ?_
    refine q_aload_n hC 0 dX11_parse_48 rfl rfl ?_
    refine q_iconst hC dX11_parse_49 rfl ?_
    refine q_putI hC (by decide) (by decide) rfl rfl w_1184 dX11_parse_50 ?_
    refine q_aload_n hC 0 dX11_parse_53 rfl rfl ?_
    refine q_cVV hC hnt (stk := []) (as := []) sX11_next (ci := 11) (by decide) rfl nX11_next rfl w_1211 w_1213 w_1214 w_830 w_1212 (Nat.le_of_ble_eq_true rfl) dX11_parse_54 rfl ?_
    exact c_sub [0] rfl (hJ 1 [.ref x0])
  · exact c_no
theorem pX11_parse_1 {Γ : CT} (hC : Ctx Γ "SpiritWallModel" cX11_parse 1 (some .int) rmX11_parse) (hnt : NT Γ) (J : JT) (hJ : ∀ L a, Cor Γ 1 (lX11_parse L a).1 (lX11_parse L a).2.1 (lX11_parse L a).2.2.1 (lX11_parse L a).2.2.2.1 (lX11_parse L a).2.2.2.2 (J L a)) (a : List Value) : Cor Γ 1 0 0 57 (List.zip [0] a) [] (bX11_parse_1 J a) := by
  unfold bX11_parse_1
  split
  · rename_i x0
    refine c_sub [0] rfl (loc' := [(0, .ref x0)]) ?_
    refine q_aload_n hC 0 dX11_parse_57 rfl rfl ?_
    refine q_cVI hC hnt (stk := []) (as := []) sX11_fine (ci := 11) (by decide) rfl nX11_fine rfl w_1207 w_1209 w_1210 w_830 w_1208 (Nat.le_of_ble_eq_true rfl) dX11_parse_58 rfl (fun v1 => ?_)
    refine q_if_eq hC 78 dX11_parse_61 rfl ?_ ?_
    · exact c_sub [0] rfl (hJ 2 [.ref x0])
    · refine q_aload_n hC 0 dX11_parse_64 rfl rfl ?_
      refine q_getI hC (by decide) (by decide) rfl w_1191 dX11_parse_65 (fun v2 => ?_)
      refine q_if_eq hC 78 dX11_parse_68 rfl ?_ ?_
      · exact c_sub [0] rfl (hJ 2 [.ref x0])
      · refine q_aload_n hC 0 dX11_parse_71 rfl rfl ?_
        refine q_cVV hC hnt (stk := []) (as := []) sX11_statement (ci := 11) (by decide) rfl nX11_statement rfl w_1266 w_1268 w_1269 w_830 w_1267 (Nat.le_of_ble_eq_true rfl) dX11_parse_72 rfl ?_
        refine q_goto hC 57 dX11_parse_75 rfl ?_
        exact c_sub [0] rfl (hJ 1 [.ref x0])
  · exact c_no
theorem pX11_parse_2 {Γ : CT} (hC : Ctx Γ "SpiritWallModel" cX11_parse 1 (some .int) rmX11_parse) (hnt : NT Γ) (J : JT) (hJ : ∀ L a, Cor Γ 1 (lX11_parse L a).1 (lX11_parse L a).2.1 (lX11_parse L a).2.2.1 (lX11_parse L a).2.2.2.1 (lX11_parse L a).2.2.2.2 (J L a)) (a : List Value) : Cor Γ 1 0 0 78 (List.zip [0] a) [] (bX11_parse_2 J a) := by
  unfold bX11_parse_2
  split
  · rename_i x0
    refine c_sub [0] rfl (loc' := [(0, .ref x0)]) ?_
    refine q_aload_n hC 0 dX11_parse_78 rfl rfl ?_
    refine q_cVI hC hnt (stk := []) (as := []) sX11_fine (ci := 11) (by decide) rfl nX11_fine rfl w_1207 w_1209 w_1210 w_830 w_1208 (Nat.le_of_ble_eq_true rfl) dX11_parse_79 rfl (fun v1 => ?_)
    refine q_if_ne hC 98 dX11_parse_82 rfl ?_ ?_
    · refine q_aload_n hC 0 dX11_parse_98 rfl rfl ?_
      refine q_iconst hC dX11_parse_99 rfl ?_
      refine q_putI hC (by decide) (by decide) rfl rfl w_837 dX11_parse_100 ?_
      refine q_aload_n hC 0 dX11_parse_103 rfl rfl ?_
      refine q_iconst hC dX11_parse_104 rfl ?_
      refine q_putZ hC (by decide) (by decide) rfl rfl w_842 dX11_parse_105 ?_
      refine q_aload_n hC 0 dX11_parse_108 rfl rfl ?_
      refine q_cVI hC hnt (stk := []) (as := []) sX11_marks (ci := 11) (by decide) rfl nX11_marks rfl w_843 w_845 w_846 w_830 w_844 (Nat.le_of_ble_eq_true rfl) dX11_parse_109 rfl (fun v2 => ?_)
      exact q_iret hC dX11_parse_112 (Nat.le_of_ble_eq_true rfl) (Nat.le_of_ble_eq_true rfl)
    · refine q_aload_n hC 0 dX11_parse_85 rfl rfl ?_
      refine q_getR hC (by decide) (by decide) rfl w_812 dX11_parse_86 (fun r3 => ?_)
      refine q_aload_n hC 0 dX11_parse_89 rfl rfl ?_
      refine q_getR hC (by decide) (by decide) rfl w_808 dX11_parse_90 (fun r4 => ?_)
      refine q_cSV hC hnt (stk := []) (as := [.ref r3, .ref r4]) sX11_copies nX11_copies rfl w_834 w_836 w_830 w_835 (Nat.le_of_ble_eq_true rfl) dX11_parse_93 rfl ?_
      refine q_iconst hC dX11_parse_96 rfl ?_
      exact q_iret hC dX11_parse_97 (Nat.le_of_ble_eq_true rfl) (Nat.le_of_ble_eq_true rfl)
  · exact c_no
theorem sX11_parse : Snd yX11_parse (.code yX11_parse cX11_parse 1 (some .int)) rmX11_parse SX11_parse := by
  refine Snd.of lX11_parse (by decide +kernel) (fun _ => rfl) ?_
  intro Γ hC hnt hnm J hJ L a
  match L with
  | 0 => exact pX11_parse_0 hC hnt J hJ a
  | 1 => exact pX11_parse_1 hC hnt J hJ a
  | 2 => exact pX11_parse_2 hC hnt J hJ a
  | L + 3 => exact c_no
/-! SpiritWallModel.errorCode()I -/
theorem dX11_errorCode_0 : decode cX11_errorCode 0 = .ok (.aload_n 0, 1) := by decide +kernel
theorem dX11_errorCode_1 : decode cX11_errorCode 1 = .ok (.iconst 0, 1) := by decide +kernel
theorem dX11_errorCode_2 : decode cX11_errorCode 2 = .ok (.putfield 67, 3) := by decide +kernel
theorem dX11_errorCode_5 : decode cX11_errorCode 5 = .ok (.aload_n 0, 1) := by decide +kernel
theorem dX11_errorCode_6 : decode cX11_errorCode 6 = .ok (.getfield 441, 3) := by decide +kernel
theorem dX11_errorCode_9 : decode cX11_errorCode 9 = .ok (.ireturn, 1) := by decide +kernel
def rmX11_errorCode : Room := rmk 6 0 0 150
theorem nX11_errorCode : nameOk yX11_errorCode 0 = true := by decide +kernel
def bX11_errorCode_0 (J : JT) : List Value → Sem
  | [.ref x0] =>
    pI 11 0 x0 0 <|
    gI 11 27 x0 fun v1 =>
    rI v1
  | _ => no
def bX11_errorCode (J : JT) : JT := fun L a => match L with
  | 0 => bX11_errorCode_0 J a
  | _ => no
def SX11_errorCode : ST := mk 1 bX11_errorCode
def lX11_errorCode (L : Nat) (a : List Value) : Nat × Nat × Nat × List (Nat × Value) × List Value := match L with
  | 0 => (0, 0, 0, lv_args 0 a, [])
  | _ => (0, 0, 0, [], [])
theorem pX11_errorCode_0 {Γ : CT} (hC : Ctx Γ "SpiritWallModel" cX11_errorCode 1 (some .int) rmX11_errorCode) (hnt : NT Γ) (J : JT) (hJ : ∀ L a, Cor Γ 1 (lX11_errorCode L a).1 (lX11_errorCode L a).2.1 (lX11_errorCode L a).2.2.1 (lX11_errorCode L a).2.2.2.1 (lX11_errorCode L a).2.2.2.2 (J L a)) (a : List Value) : Cor Γ 1 0 0 0 (lv_args 0 a) [] (bX11_errorCode_0 J a) := by
  unfold bX11_errorCode_0
  split
  · rename_i x0
    refine c_sub [0] rfl (loc' := [(0, .ref x0)]) ?_
    refine q_aload_n hC 0 dX11_errorCode_0 rfl rfl ?_
    refine q_iconst hC dX11_errorCode_1 rfl ?_
    refine q_putI hC (by decide) (by decide) rfl rfl w_833 dX11_errorCode_2 ?_
    refine q_aload_n hC 0 dX11_errorCode_5 rfl rfl ?_
    refine q_getI hC (by decide) (by decide) rfl w_1206 dX11_errorCode_6 (fun v1 => ?_)
    exact q_iret hC dX11_errorCode_9 (Nat.le_of_ble_eq_true rfl) (Nat.le_of_ble_eq_true rfl)
  · exact c_no
theorem sX11_errorCode : Snd yX11_errorCode (.code yX11_errorCode cX11_errorCode 1 (some .int)) rmX11_errorCode SX11_errorCode := by
  refine Snd.of lX11_errorCode (by decide +kernel) (fun _ => rfl) ?_
  intro Γ hC hnt hnm J hJ L a
  match L with
  | 0 => exact pX11_errorCode_0 hC hnt J hJ a
  | L + 1 => exact c_no
/-! SpiritWallModel.errorOffset()I -/
theorem dX11_errorOffset_0 : decode cX11_errorOffset 0 = .ok (.aload_n 0, 1) := by decide +kernel
theorem dX11_errorOffset_1 : decode cX11_errorOffset 1 = .ok (.iconst 0, 1) := by decide +kernel
theorem dX11_errorOffset_2 : decode cX11_errorOffset 2 = .ok (.putfield 67, 3) := by decide +kernel
theorem dX11_errorOffset_5 : decode cX11_errorOffset 5 = .ok (.aload_n 0, 1) := by decide +kernel
theorem dX11_errorOffset_6 : decode cX11_errorOffset 6 = .ok (.getfield 57, 3) := by decide +kernel
theorem dX11_errorOffset_9 : decode cX11_errorOffset 9 = .ok (.ireturn, 1) := by decide +kernel
def rmX11_errorOffset : Room := rmk 6 0 0 150
theorem nX11_errorOffset : nameOk yX11_errorOffset 0 = true := by decide +kernel
def bX11_errorOffset_0 (J : JT) : List Value → Sem
  | [.ref x0] =>
    pI 11 0 x0 0 <|
    gI 11 28 x0 fun v1 =>
    rI v1
  | _ => no
def bX11_errorOffset (J : JT) : JT := fun L a => match L with
  | 0 => bX11_errorOffset_0 J a
  | _ => no
def SX11_errorOffset : ST := mk 1 bX11_errorOffset
def lX11_errorOffset (L : Nat) (a : List Value) : Nat × Nat × Nat × List (Nat × Value) × List Value := match L with
  | 0 => (0, 0, 0, lv_args 0 a, [])
  | _ => (0, 0, 0, [], [])
theorem pX11_errorOffset_0 {Γ : CT} (hC : Ctx Γ "SpiritWallModel" cX11_errorOffset 1 (some .int) rmX11_errorOffset) (hnt : NT Γ) (J : JT) (hJ : ∀ L a, Cor Γ 1 (lX11_errorOffset L a).1 (lX11_errorOffset L a).2.1 (lX11_errorOffset L a).2.2.1 (lX11_errorOffset L a).2.2.2.1 (lX11_errorOffset L a).2.2.2.2 (J L a)) (a : List Value) : Cor Γ 1 0 0 0 (lv_args 0 a) [] (bX11_errorOffset_0 J a) := by
  unfold bX11_errorOffset_0
  split
  · rename_i x0
    refine c_sub [0] rfl (loc' := [(0, .ref x0)]) ?_
    refine q_aload_n hC 0 dX11_errorOffset_0 rfl rfl ?_
    refine q_iconst hC dX11_errorOffset_1 rfl ?_
    refine q_putI hC (by decide) (by decide) rfl rfl w_833 dX11_errorOffset_2 ?_
    refine q_aload_n hC 0 dX11_errorOffset_5 rfl rfl ?_
    refine q_getI hC (by decide) (by decide) rfl w_824 dX11_errorOffset_6 (fun v1 => ?_)
    exact q_iret hC dX11_errorOffset_9 (Nat.le_of_ble_eq_true rfl) (Nat.le_of_ble_eq_true rfl)
  · exact c_no
theorem sX11_errorOffset : Snd yX11_errorOffset (.code yX11_errorOffset cX11_errorOffset 1 (some .int)) rmX11_errorOffset SX11_errorOffset := by
  refine Snd.of lX11_errorOffset (by decide +kernel) (fun _ => rfl) ?_
  intro Γ hC hnt hnm J hJ L a
  match L with
  | 0 => exact pX11_errorOffset_0 hC hnt J hJ a
  | L + 1 => exact c_no
/-! SpiritWallModel.says(I)V -/
theorem dX11_says_0 : decode cX11_says 0 = .ok (.aload_n 0, 1) := by decide +kernel
theorem dX11_says_1 : decode cX11_says 1 = .ok (.getfield 61, 3) := by decide +kernel
theorem dX11_says_4 : decode cX11_says 4 = .ok (.aload_n 0, 1) := by decide +kernel
theorem dX11_says_5 : decode cX11_says 5 = .ok (.getfield 496, 3) := by decide +kernel
theorem dX11_says_8 : decode cX11_says 8 = .ok (.iload_n 1, 1) := by decide +kernel
theorem dX11_says_9 : decode cX11_says 9 = .ok (.i2b, 1) := by decide +kernel
theorem dX11_says_10 : decode cX11_says 10 = .ok (.bastore, 1) := by decide +kernel
theorem dX11_says_11 : decode cX11_says 11 = .ok (.aload_n 0, 1) := by decide +kernel
theorem dX11_says_12 : decode cX11_says 12 = .ok (.aload_n 0, 1) := by decide +kernel
theorem dX11_says_13 : decode cX11_says 13 = .ok (.getfield 496, 3) := by decide +kernel
theorem dX11_says_16 : decode cX11_says 16 = .ok (.iconst 1, 1) := by decide +kernel
theorem dX11_says_17 : decode cX11_says 17 = .ok (.iadd, 1) := by decide +kernel
theorem dX11_says_18 : decode cX11_says 18 = .ok (.putfield 496, 3) := by decide +kernel
theorem dX11_says_21 : decode cX11_says 21 = .ok (.return_, 1) := by decide +kernel
def rmX11_says : Room := rmk 6 0 0 150
theorem nX11_says : nameOk yX11_says 1 = true := by decide +kernel
def bX11_says_0 (J : JT) : List Value → Sem
  | [.ref x0, .int x1] =>
    gR 11 30 x0 fun r1 =>
    gI 11 31 x0 fun v2 =>
    sB r1 v2 (x1.toInt8.toInt32) <|
    gI 11 31 x0 fun v3 =>
    pI 11 31 x0 (v3 + 1) <|
    rV
  | _ => no
def bX11_says (J : JT) : JT := fun L a => match L with
  | 0 => bX11_says_0 J a
  | _ => no
def SX11_says : ST := mk 2 bX11_says
def lX11_says (L : Nat) (a : List Value) : Nat × Nat × Nat × List (Nat × Value) × List Value := match L with
  | 0 => (0, 0, 0, lv_args 0 a, [])
  | _ => (0, 0, 0, [], [])
theorem pX11_says_0 {Γ : CT} (hC : Ctx Γ "SpiritWallModel" cX11_says 2 none rmX11_says) (hnt : NT Γ) (J : JT) (hJ : ∀ L a, Cor Γ 2 (lX11_says L a).1 (lX11_says L a).2.1 (lX11_says L a).2.2.1 (lX11_says L a).2.2.2.1 (lX11_says L a).2.2.2.2 (J L a)) (a : List Value) : Cor Γ 2 0 0 0 (lv_args 0 a) [] (bX11_says_0 J a) := by
  unfold bX11_says_0
  split
  · rename_i x0 x1
    refine c_sub [0, 1] rfl (loc' := [(0, .ref x0), (1, .int x1)]) ?_
    refine q_aload_n hC 0 dX11_says_0 rfl rfl ?_
    refine q_getR hC (by decide) (by decide) rfl w_825 dX11_says_1 (fun r1 => ?_)
    refine q_aload_n hC 0 dX11_says_4 rfl rfl ?_
    refine q_getI hC (by decide) (by decide) rfl w_1270 dX11_says_5 (fun v2 => ?_)
    refine q_iload_n hC 1 dX11_says_8 rfl rfl ?_
    refine q_i2b hC dX11_says_9 ?_
    refine q_bast hC dX11_says_10 ?_
    refine q_aload_n hC 0 dX11_says_11 rfl rfl ?_
    refine q_aload_n hC 0 dX11_says_12 rfl rfl ?_
    refine q_getI hC (by decide) (by decide) rfl w_1270 dX11_says_13 (fun v3 => ?_)
    refine q_iconst hC dX11_says_16 rfl ?_
    refine q_iadd hC dX11_says_17 ?_
    refine q_putI hC (by decide) (by decide) rfl rfl w_1270 dX11_says_18 ?_
    exact q_vret hC dX11_says_21 (Nat.le_of_ble_eq_true rfl) (Nat.le_of_ble_eq_true rfl)
  · exact c_no
theorem sX11_says : Snd yX11_says (.code yX11_says cX11_says 2 none) rmX11_says SX11_says := by
  refine Snd.of lX11_says (by decide +kernel) (fun _ => rfl) ?_
  intro Γ hC hnt hnm J hJ L a
  match L with
  | 0 => exact pX11_says_0 hC hnt J hJ a
  | L + 1 => exact c_no
/-! SpiritWallModel.saysDigits(I)V -/
theorem dX11_saysDigits_0 : decode cX11_saysDigits 0 = .ok (.iload_n 1, 1) := by decide +kernel
theorem dX11_saysDigits_1 : decode cX11_saysDigits 1 = .ok (.bipush 9, 2) := by decide +kernel
theorem dX11_saysDigits_3 : decode cX11_saysDigits 3 = .ok (.if_icmp .le 11, 3) := by decide +kernel
theorem dX11_saysDigits_6 : decode cX11_saysDigits 6 = .ok (.aload_n 0, 1) := by decide +kernel
theorem dX11_saysDigits_7 : decode cX11_saysDigits 7 = .ok (.iload_n 1, 1) := by decide +kernel
theorem dX11_saysDigits_8 : decode cX11_saysDigits 8 = .ok (.bipush 10, 2) := by decide +kernel
theorem dX11_saysDigits_10 : decode cX11_saysDigits 10 = .ok (.idiv, 1) := by decide +kernel
theorem dX11_saysDigits_11 : decode cX11_saysDigits 11 = .ok (.invokevirtual 499, 3) := by decide +kernel
theorem dX11_saysDigits_14 : decode cX11_saysDigits 14 = .ok (.aload_n 0, 1) := by decide +kernel
theorem dX11_saysDigits_15 : decode cX11_saysDigits 15 = .ok (.bipush 48, 2) := by decide +kernel
theorem dX11_saysDigits_17 : decode cX11_saysDigits 17 = .ok (.iload_n 1, 1) := by decide +kernel
theorem dX11_saysDigits_18 : decode cX11_saysDigits 18 = .ok (.bipush 10, 2) := by decide +kernel
theorem dX11_saysDigits_20 : decode cX11_saysDigits 20 = .ok (.irem, 1) := by decide +kernel
theorem dX11_saysDigits_21 : decode cX11_saysDigits 21 = .ok (.iadd, 1) := by decide +kernel
theorem dX11_saysDigits_22 : decode cX11_saysDigits 22 = .ok (.invokevirtual 502, 3) := by decide +kernel
theorem dX11_saysDigits_25 : decode cX11_saysDigits 25 = .ok (.return_, 1) := by decide +kernel
def rmX11_saysDigits (d : Nat) : Room := rmk (7 + d) 0 0 (171 + d * 21)
theorem nX11_saysDigits : nameOk yX11_saysDigits 1 = true := by decide +kernel
def bX11_saysDigits_0 (S : ST) (J : JT) : List Value → Sem
  | [.ref x0, .int x1] =>
    br (x1 ≤ (9 : Int32))
    (nz 10 <|
    ob 11 x0 (cV SX11_says [.ref x0, .int (48 + (x1 - x1 / 10 * 10))] <|
    rV))
    (nz 10 <|
    ob 11 x0 (cV S [.ref x0, .int (x1 / 10)] <|
    nz 10 <|
    ob 11 x0 (cV SX11_says [.ref x0, .int (48 + (x1 - x1 / 10 * 10))] <|
    rV)))
  | _ => no
def bX11_saysDigits (S : ST) (J : JT) : JT := fun L a => match L with
  | 0 => bX11_saysDigits_0 S J a
  | _ => no
def SX11_saysDigits : Nat → ST
  | 0 => fun _ => no
  | d + 1 => mk 2 (bX11_saysDigits (SX11_saysDigits d))
def lX11_saysDigits (L : Nat) (a : List Value) : Nat × Nat × Nat × List (Nat × Value) × List Value := match L with
  | 0 => (0, 0, 0, lv_args 0 a, [])
  | _ => (0, 0, 0, [], [])
theorem pX11_saysDigits_0 {Γ : CT} {S : ST} {d : Nat} (hS : Snd yX11_saysDigits (.code yX11_saysDigits cX11_saysDigits 2 none) (rmX11_saysDigits d) S) (hC : Ctx Γ "SpiritWallModel" cX11_saysDigits 2 none (rmX11_saysDigits (d + 1))) (hnt : NT Γ) (J : JT) (hJ : ∀ L a, Cor Γ 2 (lX11_saysDigits L a).1 (lX11_saysDigits L a).2.1 (lX11_saysDigits L a).2.2.1 (lX11_saysDigits L a).2.2.2.1 (lX11_saysDigits L a).2.2.2.2 (J L a)) (a : List Value) : Cor Γ 2 0 0 0 (lv_args 0 a) [] (bX11_saysDigits_0 S J a) := by
  unfold bX11_saysDigits_0
  split
  · rename_i x0 x1
    refine c_sub [0, 1] rfl (loc' := [(0, .ref x0), (1, .int x1)]) ?_
    refine q_iload_n hC 1 dX11_saysDigits_0 rfl rfl ?_
    refine q_bipush hC (v := 9) dX11_saysDigits_1 rfl ?_
    refine q_ic_le hC 14 dX11_saysDigits_3 rfl ?_ ?_
    · refine q_aload_n hC 0 dX11_saysDigits_14 rfl rfl ?_
      refine q_bipush hC (v := 48) dX11_saysDigits_15 rfl ?_
      refine q_iload_n hC 1 dX11_saysDigits_17 rfl rfl ?_
      refine q_bipush hC (v := 10) dX11_saysDigits_18 rfl ?_
      refine q_irem hC dX11_saysDigits_20 ?_
      refine q_iadd hC dX11_saysDigits_21 ?_
      refine q_cVV hC hnt (stk := []) (as := [.int (48 + (x1 - x1 / 10 * 10))]) sX11_says (ci := 11) (by decide) rfl nX11_says (roomOk_of (by simp only [rmX11_says, rmX11_saysDigits, rmk]; omega)) w_1271 w_1273 w_1274 w_830 w_1272 (Nat.le_of_ble_eq_true rfl) dX11_saysDigits_22 rfl ?_
      exact q_vret hC dX11_saysDigits_25 (Nat.le_of_ble_eq_true rfl) (Nat.le_of_ble_eq_true rfl)
    · refine q_aload_n hC 0 dX11_saysDigits_6 rfl rfl ?_
      refine q_iload_n hC 1 dX11_saysDigits_7 rfl rfl ?_
      refine q_bipush hC (v := 10) dX11_saysDigits_8 rfl ?_
      refine q_idiv hC dX11_saysDigits_10 ?_
      refine q_cVV hC hnt (stk := []) (as := [.int (x1 / 10)]) hS (ci := 11) (by decide) rfl nX11_saysDigits (roomOk_of (by simp only [rmX11_says, rmX11_saysDigits, rmk]; omega)) w_1275 w_1277 w_1278 w_830 w_1276 (Nat.le_of_ble_eq_true rfl) dX11_saysDigits_11 rfl ?_
      refine q_aload_n hC 0 dX11_saysDigits_14 rfl rfl ?_
      refine q_bipush hC (v := 48) dX11_saysDigits_15 rfl ?_
      refine q_iload_n hC 1 dX11_saysDigits_17 rfl rfl ?_
      refine q_bipush hC (v := 10) dX11_saysDigits_18 rfl ?_
      refine q_irem hC dX11_saysDigits_20 ?_
      refine q_iadd hC dX11_saysDigits_21 ?_
      refine q_cVV hC hnt (stk := []) (as := [.int (48 + (x1 - x1 / 10 * 10))]) sX11_says (ci := 11) (by decide) rfl nX11_says (roomOk_of (by simp only [rmX11_says, rmX11_saysDigits, rmk]; omega)) w_1271 w_1273 w_1274 w_830 w_1272 (Nat.le_of_ble_eq_true rfl) dX11_saysDigits_22 rfl ?_
      exact q_vret hC dX11_saysDigits_25 (Nat.le_of_ble_eq_true rfl) (Nat.le_of_ble_eq_true rfl)
  · exact c_no
theorem sX11_saysDigits : ∀ d, Snd yX11_saysDigits (.code yX11_saysDigits cX11_saysDigits 2 none) (rmX11_saysDigits d) (SX11_saysDigits d)
  | 0 => fun l hl G sz av μ Q h => h.elim
  | d + 1 => by
    have hS := sX11_saysDigits d
    refine Snd.of lX11_saysDigits (by decide +kernel) (fun _ => rfl) ?_
    intro Γ hC hnt hnm J hJ L a
    match L with
    | 0 => exact pX11_saysDigits_0 hS hC hnt J hJ a
    | L + 1 => exact c_no
/-! SpiritWallModel.saysNumber(I)V -/
theorem dX11_saysNumber_0 : decode cX11_saysNumber 0 = .ok (.iload_n 1, 1) := by decide +kernel
theorem dX11_saysNumber_1 : decode cX11_saysNumber 1 = .ok (.ifCond .ge 9, 3) := by decide +kernel
theorem dX11_saysNumber_4 : decode cX11_saysNumber 4 = .ok (.aload_n 0, 1) := by decide +kernel
theorem dX11_saysNumber_5 : decode cX11_saysNumber 5 = .ok (.bipush 45, 2) := by decide +kernel
theorem dX11_saysNumber_7 : decode cX11_saysNumber 7 = .ok (.invokevirtual 502, 3) := by decide +kernel
theorem dX11_saysNumber_10 : decode cX11_saysNumber 10 = .ok (.aload_n 0, 1) := by decide +kernel
theorem dX11_saysNumber_11 : decode cX11_saysNumber 11 = .ok (.iload_n 1, 1) := by decide +kernel
theorem dX11_saysNumber_12 : decode cX11_saysNumber 12 = .ok (.invokestatic 107, 3) := by decide +kernel
theorem dX11_saysNumber_15 : decode cX11_saysNumber 15 = .ok (.invokevirtual 499, 3) := by decide +kernel
theorem dX11_saysNumber_18 : decode cX11_saysNumber 18 = .ok (.return_, 1) := by decide +kernel
def rmX11_saysNumber : Room := rmk 19 0 0 423
theorem nX11_saysNumber : nameOk yX11_saysNumber 1 = true := by decide +kernel
def bX11_saysNumber_0 (J : JT) : List Value → Sem
  | [.ref x0, .int x1] =>
    br (0 ≤ x1)
    (cI SJ9_abs_0f7a4 [.int x1] fun v1 =>
    ob 11 x0 (cV (SX11_saysDigits 11) [.ref x0, .int v1] <|
    rV))
    (ob 11 x0 (cV SX11_says [.ref x0, .int 45] <|
    cI SJ9_abs_0f7a4 [.int x1] fun v2 =>
    ob 11 x0 (cV (SX11_saysDigits 11) [.ref x0, .int v2] <|
    rV)))
  | _ => no
def bX11_saysNumber (J : JT) : JT := fun L a => match L with
  | 0 => bX11_saysNumber_0 J a
  | _ => no
def SX11_saysNumber : ST := mk 2 bX11_saysNumber
def lX11_saysNumber (L : Nat) (a : List Value) : Nat × Nat × Nat × List (Nat × Value) × List Value := match L with
  | 0 => (0, 0, 0, lv_args 0 a, [])
  | _ => (0, 0, 0, [], [])
theorem pX11_saysNumber_0 {Γ : CT} (hC : Ctx Γ "SpiritWallModel" cX11_saysNumber 2 none rmX11_saysNumber) (hnt : NT Γ) (J : JT) (hJ : ∀ L a, Cor Γ 2 (lX11_saysNumber L a).1 (lX11_saysNumber L a).2.1 (lX11_saysNumber L a).2.2.1 (lX11_saysNumber L a).2.2.2.1 (lX11_saysNumber L a).2.2.2.2 (J L a)) (a : List Value) : Cor Γ 2 0 0 0 (lv_args 0 a) [] (bX11_saysNumber_0 J a) := by
  unfold bX11_saysNumber_0
  split
  · rename_i x0 x1
    refine c_sub [0, 1] rfl (loc' := [(0, .ref x0), (1, .int x1)]) ?_
    refine q_iload_n hC 1 dX11_saysNumber_0 rfl rfl ?_
    refine q_if_ge hC 10 dX11_saysNumber_1 rfl ?_ ?_
    · refine q_aload_n hC 0 dX11_saysNumber_10 rfl rfl ?_
      refine q_iload_n hC 1 dX11_saysNumber_11 rfl rfl ?_
      refine q_cSI hC hnt (stk := [.ref x0]) (as := [.int x1]) sJ9_abs_0f7a4 nJ9_abs_0f7a4 rfl w_866 w_687 w_351 w_686 (Nat.le_of_ble_eq_true rfl) dX11_saysNumber_12 rfl (fun v1 => ?_)
      refine q_cVV hC hnt (stk := []) (as := [.int v1]) (sX11_saysDigits 11) (ci := 11) (by decide) rfl nX11_saysDigits rfl w_1275 w_1277 w_1278 w_830 w_1276 (Nat.le_of_ble_eq_true rfl) dX11_saysNumber_15 rfl ?_
      exact q_vret hC dX11_saysNumber_18 (Nat.le_of_ble_eq_true rfl) (Nat.le_of_ble_eq_true rfl)
    · refine q_aload_n hC 0 dX11_saysNumber_4 rfl rfl ?_
      refine q_bipush hC (v := 45) dX11_saysNumber_5 rfl ?_
      refine q_cVV hC hnt (stk := []) (as := [.int 45]) sX11_says (ci := 11) (by decide) rfl nX11_says rfl w_1271 w_1273 w_1274 w_830 w_1272 (Nat.le_of_ble_eq_true rfl) dX11_saysNumber_7 rfl ?_
      refine q_aload_n hC 0 dX11_saysNumber_10 rfl rfl ?_
      refine q_iload_n hC 1 dX11_saysNumber_11 rfl rfl ?_
      refine q_cSI hC hnt (stk := [.ref x0]) (as := [.int x1]) sJ9_abs_0f7a4 nJ9_abs_0f7a4 rfl w_866 w_687 w_351 w_686 (Nat.le_of_ble_eq_true rfl) dX11_saysNumber_12 rfl (fun v2 => ?_)
      refine q_cVV hC hnt (stk := []) (as := [.int v2]) (sX11_saysDigits 11) (ci := 11) (by decide) rfl nX11_saysDigits rfl w_1275 w_1277 w_1278 w_830 w_1276 (Nat.le_of_ble_eq_true rfl) dX11_saysNumber_15 rfl ?_
      exact q_vret hC dX11_saysNumber_18 (Nat.le_of_ble_eq_true rfl) (Nat.le_of_ble_eq_true rfl)
  · exact c_no
theorem sX11_saysNumber : Snd yX11_saysNumber (.code yX11_saysNumber cX11_saysNumber 2 none) rmX11_saysNumber SX11_saysNumber := by
  refine Snd.of lX11_saysNumber (by decide +kernel) (fun _ => rfl) ?_
  intro Γ hC hnt hnm J hJ L a
  match L with
  | 0 => exact pX11_saysNumber_0 hC hnt J hJ a
  | L + 1 => exact c_no
/-! SpiritWallModel.saysLetters(I)V -/
theorem dX11_saysLetters_0 : decode cX11_saysLetters 0 = .ok (.iload_n 1, 1) := by decide +kernel
theorem dX11_saysLetters_1 : decode cX11_saysLetters 1 = .ok (.bipush 26, 2) := by decide +kernel
theorem dX11_saysLetters_3 : decode cX11_saysLetters 3 = .ok (.if_icmp .le 11, 3) := by decide +kernel
theorem dX11_saysLetters_6 : decode cX11_saysLetters 6 = .ok (.aload_n 0, 1) := by decide +kernel
theorem dX11_saysLetters_7 : decode cX11_saysLetters 7 = .ok (.iload_n 1, 1) := by decide +kernel
theorem dX11_saysLetters_8 : decode cX11_saysLetters 8 = .ok (.bipush 27, 2) := by decide +kernel
theorem dX11_saysLetters_10 : decode cX11_saysLetters 10 = .ok (.idiv, 1) := by decide +kernel
theorem dX11_saysLetters_11 : decode cX11_saysLetters 11 = .ok (.invokevirtual 505, 3) := by decide +kernel
theorem dX11_saysLetters_14 : decode cX11_saysLetters 14 = .ok (.aload_n 0, 1) := by decide +kernel
theorem dX11_saysLetters_15 : decode cX11_saysLetters 15 = .ok (.bipush 97, 2) := by decide +kernel
theorem dX11_saysLetters_17 : decode cX11_saysLetters 17 = .ok (.iload_n 1, 1) := by decide +kernel
theorem dX11_saysLetters_18 : decode cX11_saysLetters 18 = .ok (.bipush 27, 2) := by decide +kernel
theorem dX11_saysLetters_20 : decode cX11_saysLetters 20 = .ok (.irem, 1) := by decide +kernel
theorem dX11_saysLetters_21 : decode cX11_saysLetters 21 = .ok (.iadd, 1) := by decide +kernel
theorem dX11_saysLetters_22 : decode cX11_saysLetters 22 = .ok (.iconst 1, 1) := by decide +kernel
theorem dX11_saysLetters_23 : decode cX11_saysLetters 23 = .ok (.isub, 1) := by decide +kernel
theorem dX11_saysLetters_24 : decode cX11_saysLetters 24 = .ok (.invokevirtual 502, 3) := by decide +kernel
theorem dX11_saysLetters_27 : decode cX11_saysLetters 27 = .ok (.return_, 1) := by decide +kernel
def rmX11_saysLetters (d : Nat) : Room := rmk (7 + d) 0 0 (171 + d * 21)
theorem nX11_saysLetters : nameOk yX11_saysLetters 1 = true := by decide +kernel
def bX11_saysLetters_0 (S : ST) (J : JT) : List Value → Sem
  | [.ref x0, .int x1] =>
    br (x1 ≤ (26 : Int32))
    (nz 27 <|
    ob 11 x0 (cV SX11_says [.ref x0, .int ((97 + (x1 - x1 / 27 * 27)) - 1)] <|
    rV))
    (nz 27 <|
    ob 11 x0 (cV S [.ref x0, .int (x1 / 27)] <|
    nz 27 <|
    ob 11 x0 (cV SX11_says [.ref x0, .int ((97 + (x1 - x1 / 27 * 27)) - 1)] <|
    rV)))
  | _ => no
def bX11_saysLetters (S : ST) (J : JT) : JT := fun L a => match L with
  | 0 => bX11_saysLetters_0 S J a
  | _ => no
def SX11_saysLetters : Nat → ST
  | 0 => fun _ => no
  | d + 1 => mk 2 (bX11_saysLetters (SX11_saysLetters d))
def lX11_saysLetters (L : Nat) (a : List Value) : Nat × Nat × Nat × List (Nat × Value) × List Value := match L with
  | 0 => (0, 0, 0, lv_args 0 a, [])
  | _ => (0, 0, 0, [], [])
theorem pX11_saysLetters_0 {Γ : CT} {S : ST} {d : Nat} (hS : Snd yX11_saysLetters (.code yX11_saysLetters cX11_saysLetters 2 none) (rmX11_saysLetters d) S) (hC : Ctx Γ "SpiritWallModel" cX11_saysLetters 2 none (rmX11_saysLetters (d + 1))) (hnt : NT Γ) (J : JT) (hJ : ∀ L a, Cor Γ 2 (lX11_saysLetters L a).1 (lX11_saysLetters L a).2.1 (lX11_saysLetters L a).2.2.1 (lX11_saysLetters L a).2.2.2.1 (lX11_saysLetters L a).2.2.2.2 (J L a)) (a : List Value) : Cor Γ 2 0 0 0 (lv_args 0 a) [] (bX11_saysLetters_0 S J a) := by
  unfold bX11_saysLetters_0
  split
  · rename_i x0 x1
    refine c_sub [0, 1] rfl (loc' := [(0, .ref x0), (1, .int x1)]) ?_
    refine q_iload_n hC 1 dX11_saysLetters_0 rfl rfl ?_
    refine q_bipush hC (v := 26) dX11_saysLetters_1 rfl ?_
    refine q_ic_le hC 14 dX11_saysLetters_3 rfl ?_ ?_
    · refine q_aload_n hC 0 dX11_saysLetters_14 rfl rfl ?_
      refine q_bipush hC (v := 97) dX11_saysLetters_15 rfl ?_
      refine q_iload_n hC 1 dX11_saysLetters_17 rfl rfl ?_
      refine q_bipush hC (v := 27) dX11_saysLetters_18 rfl ?_
      refine q_irem hC dX11_saysLetters_20 ?_
      refine q_iadd hC dX11_saysLetters_21 ?_
      refine q_iconst hC dX11_saysLetters_22 rfl ?_
      refine q_isub hC dX11_saysLetters_23 ?_
      refine q_cVV hC hnt (stk := []) (as := [.int ((97 + (x1 - x1 / 27 * 27)) - 1)]) sX11_says (ci := 11) (by decide) rfl nX11_says (roomOk_of (by simp only [rmX11_says, rmX11_saysLetters, rmk]; omega)) w_1271 w_1273 w_1274 w_830 w_1272 (Nat.le_of_ble_eq_true rfl) dX11_saysLetters_24 rfl ?_
      exact q_vret hC dX11_saysLetters_27 (Nat.le_of_ble_eq_true rfl) (Nat.le_of_ble_eq_true rfl)
    · refine q_aload_n hC 0 dX11_saysLetters_6 rfl rfl ?_
      refine q_iload_n hC 1 dX11_saysLetters_7 rfl rfl ?_
      refine q_bipush hC (v := 27) dX11_saysLetters_8 rfl ?_
      refine q_idiv hC dX11_saysLetters_10 ?_
      refine q_cVV hC hnt (stk := []) (as := [.int (x1 / 27)]) hS (ci := 11) (by decide) rfl nX11_saysLetters (roomOk_of (by simp only [rmX11_says, rmX11_saysLetters, rmk]; omega)) w_1279 w_1281 w_1282 w_830 w_1280 (Nat.le_of_ble_eq_true rfl) dX11_saysLetters_11 rfl ?_
      refine q_aload_n hC 0 dX11_saysLetters_14 rfl rfl ?_
      refine q_bipush hC (v := 97) dX11_saysLetters_15 rfl ?_
      refine q_iload_n hC 1 dX11_saysLetters_17 rfl rfl ?_
      refine q_bipush hC (v := 27) dX11_saysLetters_18 rfl ?_
      refine q_irem hC dX11_saysLetters_20 ?_
      refine q_iadd hC dX11_saysLetters_21 ?_
      refine q_iconst hC dX11_saysLetters_22 rfl ?_
      refine q_isub hC dX11_saysLetters_23 ?_
      refine q_cVV hC hnt (stk := []) (as := [.int ((97 + (x1 - x1 / 27 * 27)) - 1)]) sX11_says (ci := 11) (by decide) rfl nX11_says (roomOk_of (by simp only [rmX11_says, rmX11_saysLetters, rmk]; omega)) w_1271 w_1273 w_1274 w_830 w_1272 (Nat.le_of_ble_eq_true rfl) dX11_saysLetters_24 rfl ?_
      exact q_vret hC dX11_saysLetters_27 (Nat.le_of_ble_eq_true rfl) (Nat.le_of_ble_eq_true rfl)
  · exact c_no
theorem sX11_saysLetters : ∀ d, Snd yX11_saysLetters (.code yX11_saysLetters cX11_saysLetters 2 none) (rmX11_saysLetters d) (SX11_saysLetters d)
  | 0 => fun l hl G sz av μ Q h => h.elim
  | d + 1 => by
    have hS := sX11_saysLetters d
    refine Snd.of lX11_saysLetters (by decide +kernel) (fun _ => rfl) ?_
    intro Γ hC hnt hnm J hJ L a
    match L with
    | 0 => exact pX11_saysLetters_0 hS hC hnt J hJ a
    | L + 1 => exact c_no
/-! SpiritWallModel.saysWord(Ljava/lang/String;)V -/
theorem dX11_saysWord_0 : decode cX11_saysWord 0 = .ok (.iconst 0, 1) := by decide +kernel
theorem dX11_saysWord_1 : decode cX11_saysWord 1 = .ok (.istore_n 2, 1) := by decide +kernel
theorem dX11_saysWord_2 : decode cX11_saysWord 2 = .ok (.iload_n 2, 1) := by decide +kernel
theorem dX11_saysWord_3 : decode cX11_saysWord 3 = .ok (.aload_n 1, 1) := by decide +kernel
theorem dX11_saysWord_4 : decode cX11_saysWord 4 = .ok (.invokevirtual 427, 3) := by decide +kernel
theorem dX11_saysWord_7 : decode cX11_saysWord 7 = .ok (.if_icmp .ge 18, 3) := by decide +kernel
theorem dX11_saysWord_10 : decode cX11_saysWord 10 = .ok (.aload_n 0, 1) := by decide +kernel
theorem dX11_saysWord_11 : decode cX11_saysWord 11 = .ok (.aload_n 1, 1) := by decide +kernel
theorem dX11_saysWord_12 : decode cX11_saysWord 12 = .ok (.iload_n 2, 1) := by decide +kernel
theorem dX11_saysWord_13 : decode cX11_saysWord 13 = .ok (.invokevirtual 431, 3) := by decide +kernel
theorem dX11_saysWord_16 : decode cX11_saysWord 16 = .ok (.invokevirtual 502, 3) := by decide +kernel
theorem dX11_saysWord_19 : decode cX11_saysWord 19 = .ok (.iinc 2 1, 3) := by decide +kernel
theorem dX11_saysWord_22 : decode cX11_saysWord 22 = .ok (.goto (-20), 3) := by decide +kernel
theorem dX11_saysWord_25 : decode cX11_saysWord 25 = .ok (.return_, 1) := by decide +kernel
def rmX11_saysWord : Room := rmk 21 0 0 621
theorem nX11_saysWord : nameOk yX11_saysWord 1 = true := by decide +kernel
def bX11_saysWord_0 (J : JT) : List Value → Sem
  | [.ref x0, .ref x1] =>
    J 1 [.ref x0, .ref x1, .int 0]
  | _ => no
def bX11_saysWord_1 (J : JT) : List Value → Sem
  | [.ref x0, .ref x1, .int x2] =>
    obS x1 (cI SJ_length [.ref x1] fun v1 =>
    br (v1 ≤ x2)
    (rV)
    (obS x1 (cI SJ_charAt [.ref x1, .int x2] fun v2 =>
    ob 11 x0 (cV SX11_says [.ref x0, .int v2] <|
    J 1 [.ref x0, .ref x1, .int (x2 + 1)]))))
  | _ => no
def bX11_saysWord (J : JT) : JT := fun L a => match L with
  | 0 => bX11_saysWord_0 J a
  | 1 => bX11_saysWord_1 J a
  | _ => no
def SX11_saysWord : ST := mk 3 bX11_saysWord
def lX11_saysWord (L : Nat) (a : List Value) : Nat × Nat × Nat × List (Nat × Value) × List Value := match L with
  | 0 => (0, 0, 0, lv_args 0 a, [])
  | 1 => (0, 0, 2, List.zip [0, 1, 2] a, [])
  | _ => (0, 0, 0, [], [])
theorem pX11_saysWord_0 {Γ : CT} (hC : Ctx Γ "SpiritWallModel" cX11_saysWord 3 none rmX11_saysWord) (hnt : NT Γ) (J : JT) (hJ : ∀ L a, Cor Γ 3 (lX11_saysWord L a).1 (lX11_saysWord L a).2.1 (lX11_saysWord L a).2.2.1 (lX11_saysWord L a).2.2.2.1 (lX11_saysWord L a).2.2.2.2 (J L a)) (a : List Value) : Cor Γ 3 0 0 0 (lv_args 0 a) [] (bX11_saysWord_0 J a) := by
  unfold bX11_saysWord_0
  split
  · rename_i x0 x1
    refine c_sub [0, 1] rfl (loc' := [(0, .ref x0), (1, .ref x1)]) ?_
    refine q_iconst hC dX11_saysWord_0 rfl ?_
    refine q_istore_nA hC (loc' := [(2, .int 0), (0, .ref x0), (1, .ref x1)]) dX11_saysWord_1 rfl (Nat.le_of_ble_eq_true rfl) rfl ?_
    exact c_sub [1, 2, 0] rfl (hJ 1 [.ref x0, .ref x1, .int 0])
  · exact c_no
theorem pX11_saysWord_1 {Γ : CT} (hC : Ctx Γ "SpiritWallModel" cX11_saysWord 3 none rmX11_saysWord) (hnt : NT Γ) (J : JT) (hJ : ∀ L a, Cor Γ 3 (lX11_saysWord L a).1 (lX11_saysWord L a).2.1 (lX11_saysWord L a).2.2.1 (lX11_saysWord L a).2.2.2.1 (lX11_saysWord L a).2.2.2.2 (J L a)) (a : List Value) : Cor Γ 3 0 0 2 (List.zip [0, 1, 2] a) [] (bX11_saysWord_1 J a) := by
  unfold bX11_saysWord_1
  split
  · rename_i x0 x1 x2
    refine c_sub [0, 1, 2] rfl (loc' := [(0, .ref x0), (1, .ref x1), (2, .int x2)]) ?_
    refine q_iload_n hC 2 dX11_saysWord_2 rfl rfl ?_
    refine q_aload_n hC 1 dX11_saysWord_3 rfl rfl ?_
    refine q_cTI hC hnt (stk := [.int x2]) (as := []) sJ0_length_8abf5 rfl nJ0_length_8abf5 rfl w_1181 w_40 w_41 w_42 w_39 (Nat.le_of_ble_eq_true rfl) dX11_saysWord_4 rfl (fun v1 => ?_)
    refine q_ic_ge hC 25 dX11_saysWord_7 rfl ?_ ?_
    · exact q_vret hC dX11_saysWord_25 (Nat.le_of_ble_eq_true rfl) (Nat.le_of_ble_eq_true rfl)
    · refine q_aload_n hC 0 dX11_saysWord_10 rfl rfl ?_
      refine q_aload_n hC 1 dX11_saysWord_11 rfl rfl ?_
      refine q_iload_n hC 2 dX11_saysWord_12 rfl rfl ?_
      refine q_cTI hC hnt (stk := [.ref x0]) (as := [.int x2]) sJ0_charAt_5068e rfl nJ0_charAt_5068e rfl w_1182 w_45 w_46 w_42 w_44 (Nat.le_of_ble_eq_true rfl) dX11_saysWord_13 rfl (fun v2 => ?_)
      refine q_cVV hC hnt (stk := []) (as := [.int v2]) sX11_says (ci := 11) (by decide) rfl nX11_says rfl w_1271 w_1273 w_1274 w_830 w_1272 (Nat.le_of_ble_eq_true rfl) dX11_saysWord_16 rfl ?_
      refine q_iincA hC (loc' := [(2, .int (x2 + 1)), (0, .ref x0), (1, .ref x1)]) 2 1 dX11_saysWord_19 rfl rfl (Nat.le_of_ble_eq_true rfl) rfl ?_
      refine q_goto hC 2 dX11_saysWord_22 rfl ?_
      exact c_sub [1, 2, 0] rfl (hJ 1 [.ref x0, .ref x1, .int (x2 + 1)])
  · exact c_no
theorem sX11_saysWord : Snd yX11_saysWord (.code yX11_saysWord cX11_saysWord 3 none) rmX11_saysWord SX11_saysWord := by
  refine Snd.of lX11_saysWord (by decide +kernel) (fun _ => rfl) ?_
  intro Γ hC hnt hnm J hJ L a
  match L with
  | 0 => exact pX11_saysWord_0 hC hnt J hJ a
  | 1 => exact pX11_saysWord_1 hC hnt J hJ a
  | L + 2 => exact c_no
/-! SpiritWallModel.printMarks()I -/
theorem dX11_printMarks_0 : decode cX11_printMarks 0 = .ok (.aload_n 0, 1) := by decide +kernel
theorem dX11_printMarks_1 : decode cX11_printMarks 1 = .ok (.iconst 0, 1) := by decide +kernel
theorem dX11_printMarks_2 : decode cX11_printMarks 2 = .ok (.putfield 67, 3) := by decide +kernel
theorem dX11_printMarks_5 : decode cX11_printMarks 5 = .ok (.aload_n 0, 1) := by decide +kernel
theorem dX11_printMarks_6 : decode cX11_printMarks 6 = .ok (.iconst 0, 1) := by decide +kernel
theorem dX11_printMarks_7 : decode cX11_printMarks 7 = .ok (.putfield 496, 3) := by decide +kernel
theorem dX11_printMarks_10 : decode cX11_printMarks 10 = .ok (.iconst 0, 1) := by decide +kernel
theorem dX11_printMarks_11 : decode cX11_printMarks 11 = .ok (.istore_n 1, 1) := by decide +kernel
theorem dX11_printMarks_12 : decode cX11_printMarks 12 = .ok (.iload_n 1, 1) := by decide +kernel
theorem dX11_printMarks_13 : decode cX11_printMarks 13 = .ok (.aload_n 0, 1) := by decide +kernel
theorem dX11_printMarks_14 : decode cX11_printMarks 14 = .ok (.invokevirtual 85, 3) := by decide +kernel
theorem dX11_printMarks_17 : decode cX11_printMarks 17 = .ok (.if_icmp .ge 76, 3) := by decide +kernel
theorem dX11_printMarks_20 : decode cX11_printMarks 20 = .ok (.iload_n 1, 1) := by decide +kernel
theorem dX11_printMarks_21 : decode cX11_printMarks 21 = .ok (.ifCond .le 9, 3) := by decide +kernel
theorem dX11_printMarks_24 : decode cX11_printMarks 24 = .ok (.aload_n 0, 1) := by decide +kernel
theorem dX11_printMarks_25 : decode cX11_printMarks 25 = .ok (.bipush 32, 2) := by decide +kernel
theorem dX11_printMarks_27 : decode cX11_printMarks 27 = .ok (.invokevirtual 502, 3) := by decide +kernel
theorem dX11_printMarks_30 : decode cX11_printMarks 30 = .ok (.aload_n 0, 1) := by decide +kernel
theorem dX11_printMarks_31 : decode cX11_printMarks 31 = .ok (.aload_n 0, 1) := by decide +kernel
theorem dX11_printMarks_32 : decode cX11_printMarks 32 = .ok (.iload_n 1, 1) := by decide +kernel
theorem dX11_printMarks_33 : decode cX11_printMarks 33 = .ok (.iconst 0, 1) := by decide +kernel
theorem dX11_printMarks_34 : decode cX11_printMarks 34 = .ok (.invokevirtual 104, 3) := by decide +kernel
theorem dX11_printMarks_37 : decode cX11_printMarks 37 = .ok (.invokevirtual 505, 3) := by decide +kernel
theorem dX11_printMarks_40 : decode cX11_printMarks 40 = .ok (.aload_n 0, 1) := by decide +kernel
theorem dX11_printMarks_41 : decode cX11_printMarks 41 = .ok (.bipush 58, 2) := by decide +kernel
theorem dX11_printMarks_43 : decode cX11_printMarks 43 = .ok (.invokevirtual 502, 3) := by decide +kernel
theorem dX11_printMarks_46 : decode cX11_printMarks 46 = .ok (.aload_n 0, 1) := by decide +kernel
theorem dX11_printMarks_47 : decode cX11_printMarks 47 = .ok (.iload_n 1, 1) := by decide +kernel
theorem dX11_printMarks_48 : decode cX11_printMarks 48 = .ok (.invokevirtual 241, 3) := by decide +kernel
theorem dX11_printMarks_51 : decode cX11_printMarks 51 = .ok (.ifCond .eq 16, 3) := by decide +kernel
theorem dX11_printMarks_54 : decode cX11_printMarks 54 = .ok (.aload_n 0, 1) := by decide +kernel
theorem dX11_printMarks_55 : decode cX11_printMarks 55 = .ok (.aload_n 0, 1) := by decide +kernel
theorem dX11_printMarks_56 : decode cX11_printMarks 56 = .ok (.iload_n 1, 1) := by decide +kernel
theorem dX11_printMarks_57 : decode cX11_printMarks 57 = .ok (.iconst 4, 1) := by decide +kernel
theorem dX11_printMarks_58 : decode cX11_printMarks 58 = .ok (.invokevirtual 104, 3) := by decide +kernel
theorem dX11_printMarks_61 : decode cX11_printMarks 61 = .ok (.invokevirtual 508, 3) := by decide +kernel
theorem dX11_printMarks_64 : decode cX11_printMarks 64 = .ok (.goto 9, 3) := by decide +kernel
theorem dX11_printMarks_67 : decode cX11_printMarks 67 = .ok (.aload_n 0, 1) := by decide +kernel
theorem dX11_printMarks_68 : decode cX11_printMarks 68 = .ok (.bipush 63, 2) := by decide +kernel
theorem dX11_printMarks_70 : decode cX11_printMarks 70 = .ok (.invokevirtual 502, 3) := by decide +kernel
theorem dX11_printMarks_73 : decode cX11_printMarks 73 = .ok (.aload_n 0, 1) := by decide +kernel
theorem dX11_printMarks_74 : decode cX11_printMarks 74 = .ok (.iload_n 1, 1) := by decide +kernel
theorem dX11_printMarks_75 : decode cX11_printMarks 75 = .ok (.invokevirtual 254, 3) := by decide +kernel
theorem dX11_printMarks_78 : decode cX11_printMarks 78 = .ok (.ifCond .eq 9, 3) := by decide +kernel
theorem dX11_printMarks_81 : decode cX11_printMarks 81 = .ok (.aload_n 0, 1) := by decide +kernel
theorem dX11_printMarks_82 : decode cX11_printMarks 82 = .ok (.bipush 42, 2) := by decide +kernel
theorem dX11_printMarks_84 : decode cX11_printMarks 84 = .ok (.invokevirtual 502, 3) := by decide +kernel
theorem dX11_printMarks_87 : decode cX11_printMarks 87 = .ok (.iinc 1 1, 3) := by decide +kernel
theorem dX11_printMarks_90 : decode cX11_printMarks 90 = .ok (.goto (-78), 3) := by decide +kernel
theorem dX11_printMarks_93 : decode cX11_printMarks 93 = .ok (.aload_n 0, 1) := by decide +kernel
theorem dX11_printMarks_94 : decode cX11_printMarks 94 = .ok (.getfield 496, 3) := by decide +kernel
theorem dX11_printMarks_97 : decode cX11_printMarks 97 = .ok (.ireturn, 1) := by decide +kernel
def rmX11_printMarks : Room := rmk 20 0 0 444
theorem nX11_printMarks : nameOk yX11_printMarks 0 = true := by decide +kernel
def bX11_printMarks_0 (J : JT) : List Value → Sem
  | [.ref x0] =>
    pI 11 0 x0 0 <|
    pI 11 31 x0 0 <|
    J 1 [.ref x0, .int 0]
  | _ => no
def bX11_printMarks_1 (J : JT) : List Value → Sem
  | [.ref x0, .int x1] =>
    ob 11 x0 (cI SX11_marks [.ref x0] fun v1 =>
    br (v1 ≤ x1)
    (gI 11 31 x0 fun v2 =>
    rI v2)
    (br (x1 ≤ 0)
    (J 2 [.ref x0, .int x1])
    (ob 11 x0 (cV SX11_says [.ref x0, .int 32] <|
    J 2 [.ref x0, .int x1]))))
  | _ => no
def bX11_printMarks_2 (J : JT) : List Value → Sem
  | [.ref x0, .int x1] =>
    ob 11 x0 (cI SX11_of [.ref x0, .int x1, .int 0] fun v1 =>
    ob 11 x0 (cV (SX11_saysLetters 7) [.ref x0, .int v1] <|
    ob 11 x0 (cV SX11_says [.ref x0, .int 58] <|
    ob 11 x0 (cI SX11_hasHeight [.ref x0, .int x1] fun v2 =>
    br (v2 = 0)
    (ob 11 x0 (cV SX11_says [.ref x0, .int 63] <|
    ob 11 x0 (cI SX11_isBench [.ref x0, .int x1] fun v3 =>
    br (v3 = 0)
    (J 1 [.ref x0, .int (x1 + 1)])
    (ob 11 x0 (cV SX11_says [.ref x0, .int 42] <|
    J 1 [.ref x0, .int (x1 + 1)])))))
    (ob 11 x0 (cI SX11_of [.ref x0, .int x1, .int 4] fun v4 =>
    ob 11 x0 (cV SX11_saysNumber [.ref x0, .int v4] <|
    ob 11 x0 (cI SX11_isBench [.ref x0, .int x1] fun v5 =>
    br (v5 = 0)
    (J 1 [.ref x0, .int (x1 + 1)])
    (ob 11 x0 (cV SX11_says [.ref x0, .int 42] <|
    J 1 [.ref x0, .int (x1 + 1)]))))))))))
  | _ => no
def bX11_printMarks (J : JT) : JT := fun L a => match L with
  | 0 => bX11_printMarks_0 J a
  | 1 => bX11_printMarks_1 J a
  | 2 => bX11_printMarks_2 J a
  | _ => no
def SX11_printMarks : ST := mk 2 bX11_printMarks
def lX11_printMarks (L : Nat) (a : List Value) : Nat × Nat × Nat × List (Nat × Value) × List Value := match L with
  | 0 => (0, 0, 0, lv_args 0 a, [])
  | 1 => (0, 0, 12, List.zip [0, 1] a, [])
  | 2 => (0, 0, 30, List.zip [0, 1] a, [])
  | _ => (0, 0, 0, [], [])
theorem pX11_printMarks_0 {Γ : CT} (hC : Ctx Γ "SpiritWallModel" cX11_printMarks 2 (some .int) rmX11_printMarks) (hnt : NT Γ) (J : JT) (hJ : ∀ L a, Cor Γ 2 (lX11_printMarks L a).1 (lX11_printMarks L a).2.1 (lX11_printMarks L a).2.2.1 (lX11_printMarks L a).2.2.2.1 (lX11_printMarks L a).2.2.2.2 (J L a)) (a : List Value) : Cor Γ 2 0 0 0 (lv_args 0 a) [] (bX11_printMarks_0 J a) := by
  unfold bX11_printMarks_0
  split
  · rename_i x0
    refine c_sub [0] rfl (loc' := [(0, .ref x0)]) ?_
    refine q_aload_n hC 0 dX11_printMarks_0 rfl rfl ?_
    refine q_iconst hC dX11_printMarks_1 rfl ?_
    refine q_putI hC (by decide) (by decide) rfl rfl w_833 dX11_printMarks_2 ?_
    refine q_aload_n hC 0 dX11_printMarks_5 rfl rfl ?_
    refine q_iconst hC dX11_printMarks_6 rfl ?_
    refine q_putI hC (by decide) (by decide) rfl rfl w_1270 dX11_printMarks_7 ?_
    refine q_iconst hC dX11_printMarks_10 rfl ?_
    refine q_istore_nA hC (loc' := [(1, .int 0), (0, .ref x0)]) dX11_printMarks_11 rfl (Nat.le_of_ble_eq_true rfl) rfl ?_
    exact c_sub [1, 0] rfl (hJ 1 [.ref x0, .int 0])
  · exact c_no
theorem pX11_printMarks_1 {Γ : CT} (hC : Ctx Γ "SpiritWallModel" cX11_printMarks 2 (some .int) rmX11_printMarks) (hnt : NT Γ) (J : JT) (hJ : ∀ L a, Cor Γ 2 (lX11_printMarks L a).1 (lX11_printMarks L a).2.1 (lX11_printMarks L a).2.2.1 (lX11_printMarks L a).2.2.2.1 (lX11_printMarks L a).2.2.2.2 (J L a)) (a : List Value) : Cor Γ 2 0 0 12 (List.zip [0, 1] a) [] (bX11_printMarks_1 J a) := by
  unfold bX11_printMarks_1
  split
  · rename_i x0 x1
    refine c_sub [0, 1] rfl (loc' := [(0, .ref x0), (1, .int x1)]) ?_
    refine q_iload_n hC 1 dX11_printMarks_12 rfl rfl ?_
    refine q_aload_n hC 0 dX11_printMarks_13 rfl rfl ?_
    refine q_cVI hC hnt (stk := [.int x1]) (as := []) sX11_marks (ci := 11) (by decide) rfl nX11_marks rfl w_843 w_845 w_846 w_830 w_844 (Nat.le_of_ble_eq_true rfl) dX11_printMarks_14 rfl (fun v1 => ?_)
    refine q_ic_ge hC 93 dX11_printMarks_17 rfl ?_ ?_
    · refine q_aload_n hC 0 dX11_printMarks_93 rfl rfl ?_
      refine q_getI hC (by decide) (by decide) rfl w_1270 dX11_printMarks_94 (fun v2 => ?_)
      exact q_iret hC dX11_printMarks_97 (Nat.le_of_ble_eq_true rfl) (Nat.le_of_ble_eq_true rfl)
    · refine q_iload_n hC 1 dX11_printMarks_20 rfl rfl ?_
      refine q_if_le hC 30 dX11_printMarks_21 rfl ?_ ?_
      · exact c_sub [0, 1] rfl (hJ 2 [.ref x0, .int x1])
      · refine q_aload_n hC 0 dX11_printMarks_24 rfl rfl ?_
        refine q_bipush hC (v := 32) dX11_printMarks_25 rfl ?_
        refine q_cVV hC hnt (stk := []) (as := [.int 32]) sX11_says (ci := 11) (by decide) rfl nX11_says rfl w_1271 w_1273 w_1274 w_830 w_1272 (Nat.le_of_ble_eq_true rfl) dX11_printMarks_27 rfl ?_
        exact c_sub [0, 1] rfl (hJ 2 [.ref x0, .int x1])
  · exact c_no
theorem pX11_printMarks_2 {Γ : CT} (hC : Ctx Γ "SpiritWallModel" cX11_printMarks 2 (some .int) rmX11_printMarks) (hnt : NT Γ) (J : JT) (hJ : ∀ L a, Cor Γ 2 (lX11_printMarks L a).1 (lX11_printMarks L a).2.1 (lX11_printMarks L a).2.2.1 (lX11_printMarks L a).2.2.2.1 (lX11_printMarks L a).2.2.2.2 (J L a)) (a : List Value) : Cor Γ 2 0 0 30 (List.zip [0, 1] a) [] (bX11_printMarks_2 J a) := by
  unfold bX11_printMarks_2
  split
  · rename_i x0 x1
    refine c_sub [0, 1] rfl (loc' := [(0, .ref x0), (1, .int x1)]) ?_
    refine q_aload_n hC 0 dX11_printMarks_30 rfl rfl ?_
    refine q_aload_n hC 0 dX11_printMarks_31 rfl rfl ?_
    refine q_iload_n hC 1 dX11_printMarks_32 rfl rfl ?_
    refine q_iconst hC dX11_printMarks_33 rfl ?_
    refine q_cVI hC hnt (stk := [.ref x0]) (as := [.int x1, .int 0]) sX11_of (ci := 11) (by decide) rfl nX11_of rfl w_862 w_864 w_865 w_830 w_863 (Nat.le_of_ble_eq_true rfl) dX11_printMarks_34 rfl (fun v1 => ?_)
    refine q_cVV hC hnt (stk := []) (as := [.int v1]) (sX11_saysLetters 7) (ci := 11) (by decide) rfl nX11_saysLetters rfl w_1279 w_1281 w_1282 w_830 w_1280 (Nat.le_of_ble_eq_true rfl) dX11_printMarks_37 rfl ?_
    refine q_aload_n hC 0 dX11_printMarks_40 rfl rfl ?_
    refine q_bipush hC (v := 58) dX11_printMarks_41 rfl ?_
    refine q_cVV hC hnt (stk := []) (as := [.int 58]) sX11_says (ci := 11) (by decide) rfl nX11_says rfl w_1271 w_1273 w_1274 w_830 w_1272 (Nat.le_of_ble_eq_true rfl) dX11_printMarks_43 rfl ?_
    refine q_aload_n hC 0 dX11_printMarks_46 rfl rfl ?_
    refine q_iload_n hC 1 dX11_printMarks_47 rfl rfl ?_
    refine q_cVI hC hnt (stk := []) (as := [.int x1]) sX11_hasHeight (ci := 11) (by decide) rfl nX11_hasHeight rfl w_1012 w_1014 w_1015 w_830 w_1013 (Nat.le_of_ble_eq_true rfl) dX11_printMarks_48 rfl (fun v2 => ?_)
    refine q_if_eq hC 67 dX11_printMarks_51 rfl ?_ ?_
    · refine q_aload_n hC 0 dX11_printMarks_67 rfl rfl ?_
      refine q_bipush hC (v := 63) dX11_printMarks_68 rfl ?_
      refine q_cVV hC hnt (stk := []) (as := [.int 63]) sX11_says (ci := 11) (by decide) rfl nX11_says rfl w_1271 w_1273 w_1274 w_830 w_1272 (Nat.le_of_ble_eq_true rfl) dX11_printMarks_70 rfl ?_
      refine q_aload_n hC 0 dX11_printMarks_73 rfl rfl ?_
      refine q_iload_n hC 1 dX11_printMarks_74 rfl rfl ?_
      refine q_cVI hC hnt (stk := []) (as := [.int x1]) sX11_isBench (ci := 11) (by decide) rfl nX11_isBench rfl w_1028 w_1030 w_1031 w_830 w_1029 (Nat.le_of_ble_eq_true rfl) dX11_printMarks_75 rfl (fun v3 => ?_)
      refine q_if_eq hC 87 dX11_printMarks_78 rfl ?_ ?_
      · refine q_iincA hC (loc' := [(1, .int (x1 + 1)), (0, .ref x0)]) 1 1 dX11_printMarks_87 rfl rfl (Nat.le_of_ble_eq_true rfl) rfl ?_
        refine q_goto hC 12 dX11_printMarks_90 rfl ?_
        exact c_sub [1, 0] rfl (hJ 1 [.ref x0, .int (x1 + 1)])
      · refine q_aload_n hC 0 dX11_printMarks_81 rfl rfl ?_
        refine q_bipush hC (v := 42) dX11_printMarks_82 rfl ?_
        refine q_cVV hC hnt (stk := []) (as := [.int 42]) sX11_says (ci := 11) (by decide) rfl nX11_says rfl w_1271 w_1273 w_1274 w_830 w_1272 (Nat.le_of_ble_eq_true rfl) dX11_printMarks_84 rfl ?_
        refine q_iincA hC (loc' := [(1, .int (x1 + 1)), (0, .ref x0)]) 1 1 dX11_printMarks_87 rfl rfl (Nat.le_of_ble_eq_true rfl) rfl ?_
        refine q_goto hC 12 dX11_printMarks_90 rfl ?_
        exact c_sub [1, 0] rfl (hJ 1 [.ref x0, .int (x1 + 1)])
    · refine q_aload_n hC 0 dX11_printMarks_54 rfl rfl ?_
      refine q_aload_n hC 0 dX11_printMarks_55 rfl rfl ?_
      refine q_iload_n hC 1 dX11_printMarks_56 rfl rfl ?_
      refine q_iconst hC dX11_printMarks_57 rfl ?_
      refine q_cVI hC hnt (stk := [.ref x0]) (as := [.int x1, .int 4]) sX11_of (ci := 11) (by decide) rfl nX11_of rfl w_862 w_864 w_865 w_830 w_863 (Nat.le_of_ble_eq_true rfl) dX11_printMarks_58 rfl (fun v4 => ?_)
      refine q_cVV hC hnt (stk := []) (as := [.int v4]) sX11_saysNumber (ci := 11) (by decide) rfl nX11_saysNumber rfl w_1283 w_1285 w_1286 w_830 w_1284 (Nat.le_of_ble_eq_true rfl) dX11_printMarks_61 rfl ?_
      refine q_goto hC 73 dX11_printMarks_64 rfl ?_
      refine q_aload_n hC 0 dX11_printMarks_73 rfl rfl ?_
      refine q_iload_n hC 1 dX11_printMarks_74 rfl rfl ?_
      refine q_cVI hC hnt (stk := []) (as := [.int x1]) sX11_isBench (ci := 11) (by decide) rfl nX11_isBench rfl w_1028 w_1030 w_1031 w_830 w_1029 (Nat.le_of_ble_eq_true rfl) dX11_printMarks_75 rfl (fun v5 => ?_)
      refine q_if_eq hC 87 dX11_printMarks_78 rfl ?_ ?_
      · refine q_iincA hC (loc' := [(1, .int (x1 + 1)), (0, .ref x0)]) 1 1 dX11_printMarks_87 rfl rfl (Nat.le_of_ble_eq_true rfl) rfl ?_
        refine q_goto hC 12 dX11_printMarks_90 rfl ?_
        exact c_sub [1, 0] rfl (hJ 1 [.ref x0, .int (x1 + 1)])
      · refine q_aload_n hC 0 dX11_printMarks_81 rfl rfl ?_
        refine q_bipush hC (v := 42) dX11_printMarks_82 rfl ?_
        refine q_cVV hC hnt (stk := []) (as := [.int 42]) sX11_says (ci := 11) (by decide) rfl nX11_says rfl w_1271 w_1273 w_1274 w_830 w_1272 (Nat.le_of_ble_eq_true rfl) dX11_printMarks_84 rfl ?_
        refine q_iincA hC (loc' := [(1, .int (x1 + 1)), (0, .ref x0)]) 1 1 dX11_printMarks_87 rfl rfl (Nat.le_of_ble_eq_true rfl) rfl ?_
        refine q_goto hC 12 dX11_printMarks_90 rfl ?_
        exact c_sub [1, 0] rfl (hJ 1 [.ref x0, .int (x1 + 1)])
  · exact c_no
theorem sX11_printMarks : Snd yX11_printMarks (.code yX11_printMarks cX11_printMarks 2 (some .int)) rmX11_printMarks SX11_printMarks := by
  refine Snd.of lX11_printMarks (by decide +kernel) (fun _ => rfl) ?_
  intro Γ hC hnt hnm J hJ L a
  match L with
  | 0 => exact pX11_printMarks_0 hC hnt J hJ a
  | 1 => exact pX11_printMarks_1 hC hnt J hJ a
  | 2 => exact pX11_printMarks_2 hC hnt J hJ a
  | L + 3 => exact c_no
