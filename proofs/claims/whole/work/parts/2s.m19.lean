/-! SpiritWallModel.readsMark()V -/
theorem dX11_readsMark_0 : decode cX11_readsMark 0 = .ok (.aload_n 0, 1) := by decide +kernel
theorem dX11_readsMark_1 : decode cX11_readsMark 1 = .ok (.aload_n 0, 1) := by decide +kernel
theorem dX11_readsMark_2 : decode cX11_readsMark 2 = .ok (.invokevirtual 85, 3) := by decide +kernel
theorem dX11_readsMark_5 : decode cX11_readsMark 5 = .ok (.bipush 12, 2) := by decide +kernel
theorem dX11_readsMark_7 : decode cX11_readsMark 7 = .ok (.if_icmp .ge 7, 3) := by decide +kernel
theorem dX11_readsMark_10 : decode cX11_readsMark 10 = .ok (.iconst 1, 1) := by decide +kernel
theorem dX11_readsMark_11 : decode cX11_readsMark 11 = .ok (.goto 4, 3) := by decide +kernel
theorem dX11_readsMark_14 : decode cX11_readsMark 14 = .ok (.iconst 0, 1) := by decide +kernel
theorem dX11_readsMark_15 : decode cX11_readsMark 15 = .ok (.iconst 5, 1) := by decide +kernel
theorem dX11_readsMark_16 : decode cX11_readsMark 16 = .ok (.invokevirtual 451, 3) := by decide +kernel
theorem dX11_readsMark_19 : decode cX11_readsMark 19 = .ok (.aload_n 0, 1) := by decide +kernel
theorem dX11_readsMark_20 : decode cX11_readsMark 20 = .ok (.invokevirtual 458, 3) := by decide +kernel
theorem dX11_readsMark_23 : decode cX11_readsMark 23 = .ok (.aload_n 0, 1) := by decide +kernel
theorem dX11_readsMark_24 : decode cX11_readsMark 24 = .ok (.invokevirtual 464, 3) := by decide +kernel
theorem dX11_readsMark_27 : decode cX11_readsMark 27 = .ok (.istore_n 1, 1) := by decide +kernel
theorem dX11_readsMark_28 : decode cX11_readsMark 28 = .ok (.aload_n 0, 1) := by decide +kernel
theorem dX11_readsMark_29 : decode cX11_readsMark 29 = .ok (.invokevirtual 444, 3) := by decide +kernel
theorem dX11_readsMark_32 : decode cX11_readsMark 32 = .ok (.ifCond .eq 22, 3) := by decide +kernel
theorem dX11_readsMark_35 : decode cX11_readsMark 35 = .ok (.aload_n 0, 1) := by decide +kernel
theorem dX11_readsMark_36 : decode cX11_readsMark 36 = .ok (.aload_n 0, 1) := by decide +kernel
theorem dX11_readsMark_37 : decode cX11_readsMark 37 = .ok (.iload_n 1, 1) := by decide +kernel
theorem dX11_readsMark_38 : decode cX11_readsMark 38 = .ok (.invokevirtual 438, 3) := by decide +kernel
theorem dX11_readsMark_41 : decode cX11_readsMark 41 = .ok (.iconst (-1), 1) := by decide +kernel
theorem dX11_readsMark_42 : decode cX11_readsMark 42 = .ok (.if_icmp .ne 7, 3) := by decide +kernel
theorem dX11_readsMark_45 : decode cX11_readsMark 45 = .ok (.iconst 1, 1) := by decide +kernel
theorem dX11_readsMark_46 : decode cX11_readsMark 46 = .ok (.goto 4, 3) := by decide +kernel
theorem dX11_readsMark_49 : decode cX11_readsMark 49 = .ok (.iconst 0, 1) := by decide +kernel
theorem dX11_readsMark_50 : decode cX11_readsMark 50 = .ok (.iconst 3, 1) := by decide +kernel
theorem dX11_readsMark_51 : decode cX11_readsMark 51 = .ok (.invokevirtual 451, 3) := by decide +kernel
theorem dX11_readsMark_54 : decode cX11_readsMark 54 = .ok (.aload_n 0, 1) := by decide +kernel
theorem dX11_readsMark_55 : decode cX11_readsMark 55 = .ok (.invokevirtual 458, 3) := by decide +kernel
theorem dX11_readsMark_58 : decode cX11_readsMark 58 = .ok (.aload_n 0, 1) := by decide +kernel
theorem dX11_readsMark_59 : decode cX11_readsMark 59 = .ok (.iconst 0, 1) := by decide +kernel
theorem dX11_readsMark_60 : decode cX11_readsMark 60 = .ok (.ldc_w 467, 3) := by decide +kernel
theorem dX11_readsMark_63 : decode cX11_readsMark 63 = .ok (.invokevirtual 455, 3) := by decide +kernel
theorem dX11_readsMark_66 : decode cX11_readsMark 66 = .ok (.istore_n 2, 1) := by decide +kernel
theorem dX11_readsMark_67 : decode cX11_readsMark 67 = .ok (.aload_n 0, 1) := by decide +kernel
theorem dX11_readsMark_68 : decode cX11_readsMark 68 = .ok (.invokevirtual 444, 3) := by decide +kernel
theorem dX11_readsMark_71 : decode cX11_readsMark 71 = .ok (.ifCond .eq 21, 3) := by decide +kernel
theorem dX11_readsMark_74 : decode cX11_readsMark 74 = .ok (.aload_n 0, 1) := by decide +kernel
theorem dX11_readsMark_75 : decode cX11_readsMark 75 = .ok (.aload_n 0, 1) := by decide +kernel
theorem dX11_readsMark_76 : decode cX11_readsMark 76 = .ok (.iload_n 2, 1) := by decide +kernel
theorem dX11_readsMark_77 : decode cX11_readsMark 77 = .ok (.invokevirtual 468, 3) := by decide +kernel
theorem dX11_readsMark_80 : decode cX11_readsMark 80 = .ok (.ifCond .ne 7, 3) := by decide +kernel
theorem dX11_readsMark_83 : decode cX11_readsMark 83 = .ok (.iconst 1, 1) := by decide +kernel
theorem dX11_readsMark_84 : decode cX11_readsMark 84 = .ok (.goto 4, 3) := by decide +kernel
theorem dX11_readsMark_87 : decode cX11_readsMark 87 = .ok (.iconst 0, 1) := by decide +kernel
theorem dX11_readsMark_88 : decode cX11_readsMark 88 = .ok (.iconst 3, 1) := by decide +kernel
theorem dX11_readsMark_89 : decode cX11_readsMark 89 = .ok (.invokevirtual 451, 3) := by decide +kernel
theorem dX11_readsMark_92 : decode cX11_readsMark 92 = .ok (.aload_n 0, 1) := by decide +kernel
theorem dX11_readsMark_93 : decode cX11_readsMark 93 = .ok (.invokevirtual 458, 3) := by decide +kernel
theorem dX11_readsMark_96 : decode cX11_readsMark 96 = .ok (.aload_n 0, 1) := by decide +kernel
theorem dX11_readsMark_97 : decode cX11_readsMark 97 = .ok (.bipush 7, 2) := by decide +kernel
theorem dX11_readsMark_99 : decode cX11_readsMark 99 = .ok (.invokevirtual 471, 3) := by decide +kernel
theorem dX11_readsMark_102 : decode cX11_readsMark 102 = .ok (.istore_n 3, 1) := by decide +kernel
theorem dX11_readsMark_103 : decode cX11_readsMark 103 = .ok (.iload_n 3, 1) := by decide +kernel
theorem dX11_readsMark_104 : decode cX11_readsMark 104 = .ok (.ifCond .eq 7, 3) := by decide +kernel
theorem dX11_readsMark_107 : decode cX11_readsMark 107 = .ok (.aload_n 0, 1) := by decide +kernel
theorem dX11_readsMark_108 : decode cX11_readsMark 108 = .ok (.invokevirtual 458, 3) := by decide +kernel
theorem dX11_readsMark_111 : decode cX11_readsMark 111 = .ok (.iload_n 3, 1) := by decide +kernel
theorem dX11_readsMark_112 : decode cX11_readsMark 112 = .ok (.ifCond .eq 16, 3) := by decide +kernel
theorem dX11_readsMark_115 : decode cX11_readsMark 115 = .ok (.aload_n 0, 1) := by decide +kernel
theorem dX11_readsMark_116 : decode cX11_readsMark 116 = .ok (.ldc_w 474, 3) := by decide +kernel
theorem dX11_readsMark_119 : decode cX11_readsMark 119 = .ok (.ldc_w 467, 3) := by decide +kernel
theorem dX11_readsMark_122 : decode cX11_readsMark 122 = .ok (.invokevirtual 475, 3) := by decide +kernel
theorem dX11_readsMark_125 : decode cX11_readsMark 125 = .ok (.goto 4, 3) := by decide +kernel
theorem dX11_readsMark_128 : decode cX11_readsMark 128 = .ok (.iconst 0, 1) := by decide +kernel
theorem dX11_readsMark_129 : decode cX11_readsMark 129 = .ok (.istore 4, 2) := by decide +kernel
theorem dX11_readsMark_131 : decode cX11_readsMark 131 = .ok (.aload_n 0, 1) := by decide +kernel
theorem dX11_readsMark_132 : decode cX11_readsMark 132 = .ok (.invokevirtual 444, 3) := by decide +kernel
theorem dX11_readsMark_135 : decode cX11_readsMark 135 = .ok (.ifCond .ne 4, 3) := by decide +kernel
theorem dX11_readsMark_138 : decode cX11_readsMark 138 = .ok (.return_, 1) := by decide +kernel
theorem dX11_readsMark_139 : decode cX11_readsMark 139 = .ok (.aload_n 0, 1) := by decide +kernel
theorem dX11_readsMark_140 : decode cX11_readsMark 140 = .ok (.invokevirtual 85, 3) := by decide +kernel
theorem dX11_readsMark_143 : decode cX11_readsMark 143 = .ok (.istore 5, 2) := by decide +kernel
theorem dX11_readsMark_145 : decode cX11_readsMark 145 = .ok (.aload_n 0, 1) := by decide +kernel
theorem dX11_readsMark_146 : decode cX11_readsMark 146 = .ok (.iload 5, 2) := by decide +kernel
theorem dX11_readsMark_148 : decode cX11_readsMark 148 = .ok (.iconst 0, 1) := by decide +kernel
theorem dX11_readsMark_149 : decode cX11_readsMark 149 = .ok (.iload_n 1, 1) := by decide +kernel
theorem dX11_readsMark_150 : decode cX11_readsMark 150 = .ok (.invokevirtual 247, 3) := by decide +kernel
theorem dX11_readsMark_153 : decode cX11_readsMark 153 = .ok (.aload_n 0, 1) := by decide +kernel
theorem dX11_readsMark_154 : decode cX11_readsMark 154 = .ok (.iload 5, 2) := by decide +kernel
theorem dX11_readsMark_156 : decode cX11_readsMark 156 = .ok (.iconst 1, 1) := by decide +kernel
theorem dX11_readsMark_157 : decode cX11_readsMark 157 = .ok (.iload_n 2, 1) := by decide +kernel
theorem dX11_readsMark_158 : decode cX11_readsMark 158 = .ok (.invokevirtual 247, 3) := by decide +kernel
theorem dX11_readsMark_161 : decode cX11_readsMark 161 = .ok (.aload_n 0, 1) := by decide +kernel
theorem dX11_readsMark_162 : decode cX11_readsMark 162 = .ok (.iload 5, 2) := by decide +kernel
theorem dX11_readsMark_164 : decode cX11_readsMark 164 = .ok (.iconst 2, 1) := by decide +kernel
theorem dX11_readsMark_165 : decode cX11_readsMark 165 = .ok (.iload_n 3, 1) := by decide +kernel
theorem dX11_readsMark_166 : decode cX11_readsMark 166 = .ok (.ifCond .eq 7, 3) := by decide +kernel
theorem dX11_readsMark_169 : decode cX11_readsMark 169 = .ok (.iconst 1, 1) := by decide +kernel
theorem dX11_readsMark_170 : decode cX11_readsMark 170 = .ok (.goto 4, 3) := by decide +kernel
theorem dX11_readsMark_173 : decode cX11_readsMark 173 = .ok (.iconst 0, 1) := by decide +kernel
theorem dX11_readsMark_174 : decode cX11_readsMark 174 = .ok (.invokevirtual 247, 3) := by decide +kernel
theorem dX11_readsMark_177 : decode cX11_readsMark 177 = .ok (.aload_n 0, 1) := by decide +kernel
theorem dX11_readsMark_178 : decode cX11_readsMark 178 = .ok (.iload 5, 2) := by decide +kernel
theorem dX11_readsMark_180 : decode cX11_readsMark 180 = .ok (.iconst 3, 1) := by decide +kernel
theorem dX11_readsMark_181 : decode cX11_readsMark 181 = .ok (.iload_n 3, 1) := by decide +kernel
theorem dX11_readsMark_182 : decode cX11_readsMark 182 = .ok (.ifCond .eq 7, 3) := by decide +kernel
theorem dX11_readsMark_185 : decode cX11_readsMark 185 = .ok (.iconst 1, 1) := by decide +kernel
theorem dX11_readsMark_186 : decode cX11_readsMark 186 = .ok (.goto 4, 3) := by decide +kernel
theorem dX11_readsMark_189 : decode cX11_readsMark 189 = .ok (.iconst 0, 1) := by decide +kernel
theorem dX11_readsMark_190 : decode cX11_readsMark 190 = .ok (.invokevirtual 247, 3) := by decide +kernel
theorem dX11_readsMark_193 : decode cX11_readsMark 193 = .ok (.aload_n 0, 1) := by decide +kernel
theorem dX11_readsMark_194 : decode cX11_readsMark 194 = .ok (.iload 5, 2) := by decide +kernel
theorem dX11_readsMark_196 : decode cX11_readsMark 196 = .ok (.iconst 4, 1) := by decide +kernel
theorem dX11_readsMark_197 : decode cX11_readsMark 197 = .ok (.iload 4, 2) := by decide +kernel
theorem dX11_readsMark_199 : decode cX11_readsMark 199 = .ok (.invokevirtual 247, 3) := by decide +kernel
theorem dX11_readsMark_202 : decode cX11_readsMark 202 = .ok (.aload_n 0, 1) := by decide +kernel
theorem dX11_readsMark_203 : decode cX11_readsMark 203 = .ok (.getfield 7, 3) := by decide +kernel
theorem dX11_readsMark_206 : decode cX11_readsMark 206 = .ok (.iconst 0, 1) := by decide +kernel
theorem dX11_readsMark_207 : decode cX11_readsMark 207 = .ok (.iload 5, 2) := by decide +kernel
theorem dX11_readsMark_209 : decode cX11_readsMark 209 = .ok (.iconst 1, 1) := by decide +kernel
theorem dX11_readsMark_210 : decode cX11_readsMark 210 = .ok (.iadd, 1) := by decide +kernel
theorem dX11_readsMark_211 : decode cX11_readsMark 211 = .ok (.iastore, 1) := by decide +kernel
theorem dX11_readsMark_212 : decode cX11_readsMark 212 = .ok (.return_, 1) := by decide +kernel
def rmX11_readsMark : Room := rmk 26 0 0 732
theorem nX11_readsMark : nameOk yX11_readsMark 0 = true := by decide +kernel
def bX11_readsMark_0 (J : JT) : List Value → Sem
  | [.ref x0] =>
    ob 11 x0 (cI SX11_marks [.ref x0] fun v1 =>
    br ((12 : Int32) ≤ v1)
    (ob 11 x0 (cV SX11_needs [.ref x0, .int 0, .int 5] <|
    ob 11 x0 (cV SX11_goOn [.ref x0] <|
    ob 11 x0 (cI SX11_nameHere [.ref x0] fun v2 =>
    ob 11 x0 (cI SX11_fine [.ref x0] fun v3 =>
    br (v3 = 0)
    (J 1 [.ref x0, .int v2])
    (ob 11 x0 (cI SX11_named [.ref x0, .int v2] fun v4 =>
    br (v4 = ((-1) : Int32))
    (ob 11 x0 (cV SX11_needs [.ref x0, .int 1, .int 3] <|
    J 1 [.ref x0, .int v2]))
    (ob 11 x0 (cV SX11_needs [.ref x0, .int 0, .int 3] <|
    J 1 [.ref x0, .int v2])))))))))
    (ob 11 x0 (cV SX11_needs [.ref x0, .int 1, .int 5] <|
    ob 11 x0 (cV SX11_goOn [.ref x0] <|
    ob 11 x0 (cI SX11_nameHere [.ref x0] fun v5 =>
    ob 11 x0 (cI SX11_fine [.ref x0] fun v6 =>
    br (v6 = 0)
    (J 1 [.ref x0, .int v5])
    (ob 11 x0 (cI SX11_named [.ref x0, .int v5] fun v7 =>
    br (v7 = ((-1) : Int32))
    (ob 11 x0 (cV SX11_needs [.ref x0, .int 1, .int 3] <|
    J 1 [.ref x0, .int v5]))
    (ob 11 x0 (cV SX11_needs [.ref x0, .int 0, .int 3] <|
    J 1 [.ref x0, .int v5]))))))))))
  | _ => no
def bX11_readsMark_1 (J : JT) : List Value → Sem
  | [.ref x0, .int x1] =>
    ob 11 x0 (cV SX11_goOn [.ref x0] <|
    ob 11 x0 (cI SX11_numberHere [.ref x0, .int 0, .int 99999] fun v1 =>
    ob 11 x0 (cI SX11_fine [.ref x0] fun v2 =>
    br (v2 = 0)
    (ob 11 x0 (cV SX11_goOn [.ref x0] <|
    ob 11 x0 (cI SX11_isWord [.ref x0, .int 7] fun v3 =>
    br (v3 = 0)
    (J 2 [.ref x0, .int x1, .int v1, .int v3])
    (ob 11 x0 (cV SX11_goOn [.ref x0] <|
    J 2 [.ref x0, .int x1, .int v1, .int v3])))))
    (ob 11 x0 (cI SX11_isPlaceOf [.ref x0, .int v1] fun v4 =>
    br (v4 = 0)
    (ob 11 x0 (cV SX11_needs [.ref x0, .int 1, .int 3] <|
    ob 11 x0 (cV SX11_goOn [.ref x0] <|
    ob 11 x0 (cI SX11_isWord [.ref x0, .int 7] fun v6 =>
    br (v6 = 0)
    (J 2 [.ref x0, .int x1, .int v1, .int v6])
    (ob 11 x0 (cV SX11_goOn [.ref x0] <|
    J 2 [.ref x0, .int x1, .int v1, .int v6]))))))
    (ob 11 x0 (cV SX11_needs [.ref x0, .int 0, .int 3] <|
    ob 11 x0 (cV SX11_goOn [.ref x0] <|
    ob 11 x0 (cI SX11_isWord [.ref x0, .int 7] fun v5 =>
    br (v5 = 0)
    (J 2 [.ref x0, .int x1, .int v1, .int v5])
    (ob 11 x0 (cV SX11_goOn [.ref x0] <|
    J 2 [.ref x0, .int x1, .int v1, .int v5])))))))))))
  | _ => no
def bX11_readsMark_2 (J : JT) : List Value → Sem
  | [.ref x0, .int x1, .int x2, .int x3] =>
    br (x3 = 0)
    (ob 11 x0 (cI SX11_fine [.ref x0] fun v1 =>
    br (v1 = 0)
    (rV)
    (ob 11 x0 (cI SX11_marks [.ref x0] fun v2 =>
    ob 11 x0 (cV SX11_lays [.ref x0, .int v2, .int 0, .int x1] <|
    ob 11 x0 (cV SX11_lays [.ref x0, .int v2, .int 1, .int x2] <|
    br (x3 = 0)
    (ob 11 x0 (cV SX11_lays [.ref x0, .int v2, .int 2, .int 0] <|
    br (x3 = 0)
    (ob 11 x0 (cV SX11_lays [.ref x0, .int v2, .int 3, .int 0] <|
    ob 11 x0 (cV SX11_lays [.ref x0, .int v2, .int 4, .int 0] <|
    gR 11 1 x0 fun r3 =>
    sA r3 0 (v2 + 1) <|
    rV)))
    (ob 11 x0 (cV SX11_lays [.ref x0, .int v2, .int 3, .int 1] <|
    ob 11 x0 (cV SX11_lays [.ref x0, .int v2, .int 4, .int 0] <|
    gR 11 1 x0 fun r4 =>
    sA r4 0 (v2 + 1) <|
    rV)))))
    (ob 11 x0 (cV SX11_lays [.ref x0, .int v2, .int 2, .int 1] <|
    br (x3 = 0)
    (ob 11 x0 (cV SX11_lays [.ref x0, .int v2, .int 3, .int 0] <|
    ob 11 x0 (cV SX11_lays [.ref x0, .int v2, .int 4, .int 0] <|
    gR 11 1 x0 fun r5 =>
    sA r5 0 (v2 + 1) <|
    rV)))
    (ob 11 x0 (cV SX11_lays [.ref x0, .int v2, .int 3, .int 1] <|
    ob 11 x0 (cV SX11_lays [.ref x0, .int v2, .int 4, .int 0] <|
    gR 11 1 x0 fun r6 =>
    sA r6 0 (v2 + 1) <|
    rV)))))))))))
    (ob 11 x0 (cI SX11_signed [.ref x0, .int (-99999), .int 99999] fun v7 =>
    ob 11 x0 (cI SX11_fine [.ref x0] fun v8 =>
    br (v8 = 0)
    (rV)
    (ob 11 x0 (cI SX11_marks [.ref x0] fun v9 =>
    ob 11 x0 (cV SX11_lays [.ref x0, .int v9, .int 0, .int x1] <|
    ob 11 x0 (cV SX11_lays [.ref x0, .int v9, .int 1, .int x2] <|
    br (x3 = 0)
    (ob 11 x0 (cV SX11_lays [.ref x0, .int v9, .int 2, .int 0] <|
    br (x3 = 0)
    (ob 11 x0 (cV SX11_lays [.ref x0, .int v9, .int 3, .int 0] <|
    ob 11 x0 (cV SX11_lays [.ref x0, .int v9, .int 4, .int v7] <|
    gR 11 1 x0 fun r10 =>
    sA r10 0 (v9 + 1) <|
    rV)))
    (ob 11 x0 (cV SX11_lays [.ref x0, .int v9, .int 3, .int 1] <|
    ob 11 x0 (cV SX11_lays [.ref x0, .int v9, .int 4, .int v7] <|
    gR 11 1 x0 fun r11 =>
    sA r11 0 (v9 + 1) <|
    rV)))))
    (ob 11 x0 (cV SX11_lays [.ref x0, .int v9, .int 2, .int 1] <|
    br (x3 = 0)
    (ob 11 x0 (cV SX11_lays [.ref x0, .int v9, .int 3, .int 0] <|
    ob 11 x0 (cV SX11_lays [.ref x0, .int v9, .int 4, .int v7] <|
    gR 11 1 x0 fun r12 =>
    sA r12 0 (v9 + 1) <|
    rV)))
    (ob 11 x0 (cV SX11_lays [.ref x0, .int v9, .int 3, .int 1] <|
    ob 11 x0 (cV SX11_lays [.ref x0, .int v9, .int 4, .int v7] <|
    gR 11 1 x0 fun r13 =>
    sA r13 0 (v9 + 1) <|
    rV))))))))))))
  | _ => no
def bX11_readsMark (J : JT) : JT := fun L a => match L with
  | 0 => bX11_readsMark_0 J a
  | 1 => bX11_readsMark_1 J a
  | 2 => bX11_readsMark_2 J a
  | _ => no
def SX11_readsMark : ST := mk 6 bX11_readsMark
def lX11_readsMark (L : Nat) (a : List Value) : Nat × Nat × Nat × List (Nat × Value) × List Value := match L with
  | 0 => (0, 0, 0, lv_args 0 a, [])
  | 1 => (0, 0, 54, List.zip [0, 1] a, [])
  | 2 => (0, 0, 111, List.zip [0, 1, 2, 3] a, [])
  | _ => (0, 0, 0, [], [])
theorem pX11_readsMark_0 {Γ : CT} (hC : Ctx Γ "SpiritWallModel" cX11_readsMark 6 none rmX11_readsMark) (hnt : NT Γ) (J : JT) (hJ : ∀ L a, Cor Γ 6 (lX11_readsMark L a).1 (lX11_readsMark L a).2.1 (lX11_readsMark L a).2.2.1 (lX11_readsMark L a).2.2.2.1 (lX11_readsMark L a).2.2.2.2 (J L a)) (a : List Value) : Cor Γ 6 0 0 0 (lv_args 0 a) [] (bX11_readsMark_0 J a) := by
  unfold bX11_readsMark_0
  split
  · rename_i x0
    refine c_sub [0] rfl (loc' := [(0, .ref x0)]) ?_
    refine q_aload_n hC 0 dX11_readsMark_0 rfl rfl ?_
    refine q_aload_n hC 0 dX11_readsMark_1 rfl rfl ?_
    refine q_cVI hC hnt (stk := [.ref x0]) (as := []) sX11_marks (ci := 11) (by decide) rfl nX11_marks rfl w_843 w_845 w_846 w_830 w_844 (Nat.le_of_ble_eq_true rfl) dX11_readsMark_2 rfl (fun v1 => ?_)
    refine q_bipush hC (v := 12) dX11_readsMark_5 rfl ?_
    refine q_ic_ge hC 14 dX11_readsMark_7 rfl ?_ ?_
    · refine q_iconst hC dX11_readsMark_14 rfl ?_
      refine q_iconst hC dX11_readsMark_15 rfl ?_
      refine q_cVV hC hnt (stk := []) (as := [.int 0, .int 5]) sX11_needs (ci := 11) (by decide) rfl nX11_needs rfl w_1215 w_1217 w_1218 w_830 w_1216 (Nat.le_of_ble_eq_true rfl) dX11_readsMark_16 rfl ?_
      refine q_aload_n hC 0 dX11_readsMark_19 rfl rfl ?_
      refine q_cVV hC hnt (stk := []) (as := []) sX11_goOn (ci := 11) (by decide) rfl nX11_goOn rfl w_1223 w_1225 w_1226 w_830 w_1224 (Nat.le_of_ble_eq_true rfl) dX11_readsMark_20 rfl ?_
      refine q_aload_n hC 0 dX11_readsMark_23 rfl rfl ?_
      refine q_cVI hC hnt (stk := []) (as := []) sX11_nameHere (ci := 11) (by decide) rfl nX11_nameHere rfl w_1231 w_1233 w_1234 w_830 w_1232 (Nat.le_of_ble_eq_true rfl) dX11_readsMark_24 rfl (fun v2 => ?_)
      refine q_istore_nA hC (loc' := [(1, .int v2), (0, .ref x0)]) dX11_readsMark_27 rfl (Nat.le_of_ble_eq_true rfl) rfl ?_
      refine q_aload_n hC 1 dX11_readsMark_28 rfl rfl ?_
      refine q_cVI hC hnt (stk := []) (as := []) sX11_fine (ci := 11) (by decide) rfl nX11_fine rfl w_1207 w_1209 w_1210 w_830 w_1208 (Nat.le_of_ble_eq_true rfl) dX11_readsMark_29 rfl (fun v3 => ?_)
      refine q_if_eq hC 54 dX11_readsMark_32 rfl ?_ ?_
      · exact c_sub [1, 0] rfl (hJ 1 [.ref x0, .int v2])
      · refine q_aload_n hC 1 dX11_readsMark_35 rfl rfl ?_
        refine q_aload_n hC 1 dX11_readsMark_36 rfl rfl ?_
        refine q_iload_n hC 0 dX11_readsMark_37 rfl rfl ?_
        refine q_cVI hC hnt (stk := [.ref x0]) (as := [.int v2]) sX11_named (ci := 11) (by decide) rfl nX11_named rfl w_1202 w_1204 w_1205 w_830 w_1203 (Nat.le_of_ble_eq_true rfl) dX11_readsMark_38 rfl (fun v4 => ?_)
        refine q_iconst hC dX11_readsMark_41 rfl ?_
        refine q_ic_ne hC 49 dX11_readsMark_42 rfl ?_ ?_
        · refine q_iconst hC dX11_readsMark_49 rfl ?_
          refine q_iconst hC dX11_readsMark_50 rfl ?_
          refine q_cVV hC hnt (stk := []) (as := [.int 0, .int 3]) sX11_needs (ci := 11) (by decide) rfl nX11_needs rfl w_1215 w_1217 w_1218 w_830 w_1216 (Nat.le_of_ble_eq_true rfl) dX11_readsMark_51 rfl ?_
          exact c_sub [1, 0] rfl (hJ 1 [.ref x0, .int v2])
        · refine q_iconst hC dX11_readsMark_45 rfl ?_
          refine q_goto hC 50 dX11_readsMark_46 rfl ?_
          refine q_iconst hC dX11_readsMark_50 rfl ?_
          refine q_cVV hC hnt (stk := []) (as := [.int 1, .int 3]) sX11_needs (ci := 11) (by decide) rfl nX11_needs rfl w_1215 w_1217 w_1218 w_830 w_1216 (Nat.le_of_ble_eq_true rfl) dX11_readsMark_51 rfl ?_
          exact c_sub [1, 0] rfl (hJ 1 [.ref x0, .int v2])
    · refine q_iconst hC dX11_readsMark_10 rfl ?_
      refine q_goto hC 15 dX11_readsMark_11 rfl ?_
      refine q_iconst hC dX11_readsMark_15 rfl ?_
      refine q_cVV hC hnt (stk := []) (as := [.int 1, .int 5]) sX11_needs (ci := 11) (by decide) rfl nX11_needs rfl w_1215 w_1217 w_1218 w_830 w_1216 (Nat.le_of_ble_eq_true rfl) dX11_readsMark_16 rfl ?_
      refine q_aload_n hC 0 dX11_readsMark_19 rfl rfl ?_
      refine q_cVV hC hnt (stk := []) (as := []) sX11_goOn (ci := 11) (by decide) rfl nX11_goOn rfl w_1223 w_1225 w_1226 w_830 w_1224 (Nat.le_of_ble_eq_true rfl) dX11_readsMark_20 rfl ?_
      refine q_aload_n hC 0 dX11_readsMark_23 rfl rfl ?_
      refine q_cVI hC hnt (stk := []) (as := []) sX11_nameHere (ci := 11) (by decide) rfl nX11_nameHere rfl w_1231 w_1233 w_1234 w_830 w_1232 (Nat.le_of_ble_eq_true rfl) dX11_readsMark_24 rfl (fun v5 => ?_)
      refine q_istore_nA hC (loc' := [(1, .int v5), (0, .ref x0)]) dX11_readsMark_27 rfl (Nat.le_of_ble_eq_true rfl) rfl ?_
      refine q_aload_n hC 1 dX11_readsMark_28 rfl rfl ?_
      refine q_cVI hC hnt (stk := []) (as := []) sX11_fine (ci := 11) (by decide) rfl nX11_fine rfl w_1207 w_1209 w_1210 w_830 w_1208 (Nat.le_of_ble_eq_true rfl) dX11_readsMark_29 rfl (fun v6 => ?_)
      refine q_if_eq hC 54 dX11_readsMark_32 rfl ?_ ?_
      · exact c_sub [1, 0] rfl (hJ 1 [.ref x0, .int v5])
      · refine q_aload_n hC 1 dX11_readsMark_35 rfl rfl ?_
        refine q_aload_n hC 1 dX11_readsMark_36 rfl rfl ?_
        refine q_iload_n hC 0 dX11_readsMark_37 rfl rfl ?_
        refine q_cVI hC hnt (stk := [.ref x0]) (as := [.int v5]) sX11_named (ci := 11) (by decide) rfl nX11_named rfl w_1202 w_1204 w_1205 w_830 w_1203 (Nat.le_of_ble_eq_true rfl) dX11_readsMark_38 rfl (fun v7 => ?_)
        refine q_iconst hC dX11_readsMark_41 rfl ?_
        refine q_ic_ne hC 49 dX11_readsMark_42 rfl ?_ ?_
        · refine q_iconst hC dX11_readsMark_49 rfl ?_
          refine q_iconst hC dX11_readsMark_50 rfl ?_
          refine q_cVV hC hnt (stk := []) (as := [.int 0, .int 3]) sX11_needs (ci := 11) (by decide) rfl nX11_needs rfl w_1215 w_1217 w_1218 w_830 w_1216 (Nat.le_of_ble_eq_true rfl) dX11_readsMark_51 rfl ?_
          exact c_sub [1, 0] rfl (hJ 1 [.ref x0, .int v5])
        · refine q_iconst hC dX11_readsMark_45 rfl ?_
          refine q_goto hC 50 dX11_readsMark_46 rfl ?_
          refine q_iconst hC dX11_readsMark_50 rfl ?_
          refine q_cVV hC hnt (stk := []) (as := [.int 1, .int 3]) sX11_needs (ci := 11) (by decide) rfl nX11_needs rfl w_1215 w_1217 w_1218 w_830 w_1216 (Nat.le_of_ble_eq_true rfl) dX11_readsMark_51 rfl ?_
          exact c_sub [1, 0] rfl (hJ 1 [.ref x0, .int v5])
  · exact c_no
theorem pX11_readsMark_1 {Γ : CT} (hC : Ctx Γ "SpiritWallModel" cX11_readsMark 6 none rmX11_readsMark) (hnt : NT Γ) (J : JT) (hJ : ∀ L a, Cor Γ 6 (lX11_readsMark L a).1 (lX11_readsMark L a).2.1 (lX11_readsMark L a).2.2.1 (lX11_readsMark L a).2.2.2.1 (lX11_readsMark L a).2.2.2.2 (J L a)) (a : List Value) : Cor Γ 6 0 0 54 (List.zip [0, 1] a) [] (bX11_readsMark_1 J a) := by
  unfold bX11_readsMark_1
  split
  · rename_i x0 x1
    refine c_sub [0, 1] rfl (loc' := [(0, .ref x0), (1, .int x1)]) ?_
    refine q_aload_n hC 0 dX11_readsMark_54 rfl rfl ?_
    refine q_cVV hC hnt (stk := []) (as := []) sX11_goOn (ci := 11) (by decide) rfl nX11_goOn rfl w_1223 w_1225 w_1226 w_830 w_1224 (Nat.le_of_ble_eq_true rfl) dX11_readsMark_55 rfl ?_
    refine q_aload_n hC 0 dX11_readsMark_58 rfl rfl ?_
    refine q_iconst hC dX11_readsMark_59 rfl ?_
    refine q_ldcw hC w_1235 dX11_readsMark_60 ?_
    refine q_cVI hC hnt (stk := []) (as := [.int 0, .int 99999]) sX11_numberHere (ci := 11) (by decide) rfl nX11_numberHere rfl w_1219 w_1221 w_1222 w_830 w_1220 (Nat.le_of_ble_eq_true rfl) dX11_readsMark_63 rfl (fun v1 => ?_)
    refine q_istore_nA hC (loc' := [(2, .int v1), (0, .ref x0), (1, .int x1)]) dX11_readsMark_66 rfl (Nat.le_of_ble_eq_true rfl) rfl ?_
    refine q_aload_n hC 1 dX11_readsMark_67 rfl rfl ?_
    refine q_cVI hC hnt (stk := []) (as := []) sX11_fine (ci := 11) (by decide) rfl nX11_fine rfl w_1207 w_1209 w_1210 w_830 w_1208 (Nat.le_of_ble_eq_true rfl) dX11_readsMark_68 rfl (fun v2 => ?_)
    refine q_if_eq hC 92 dX11_readsMark_71 rfl ?_ ?_
    · refine q_aload_n hC 1 dX11_readsMark_92 rfl rfl ?_
      refine q_cVV hC hnt (stk := []) (as := []) sX11_goOn (ci := 11) (by decide) rfl nX11_goOn rfl w_1223 w_1225 w_1226 w_830 w_1224 (Nat.le_of_ble_eq_true rfl) dX11_readsMark_93 rfl ?_
      refine q_aload_n hC 1 dX11_readsMark_96 rfl rfl ?_
      refine q_bipush hC (v := 7) dX11_readsMark_97 rfl ?_
      refine q_cVI hC hnt (stk := []) (as := [.int 7]) sX11_isWord (ci := 11) (by decide) rfl nX11_isWord rfl w_1236 w_1238 w_1239 w_830 w_1237 (Nat.le_of_ble_eq_true rfl) dX11_readsMark_99 rfl (fun v3 => ?_)
      refine q_istore_nA hC (loc' := [(3, .int v3), (2, .int v1), (0, .ref x0), (1, .int x1)]) dX11_readsMark_102 rfl (Nat.le_of_ble_eq_true rfl) rfl ?_
      refine q_iload_n hC 0 dX11_readsMark_103 rfl rfl ?_
      refine q_if_eq hC 111 dX11_readsMark_104 rfl ?_ ?_
      · exact c_sub [2, 3, 1, 0] rfl (hJ 2 [.ref x0, .int x1, .int v1, .int v3])
      · refine q_aload_n hC 2 dX11_readsMark_107 rfl rfl ?_
        refine q_cVV hC hnt (stk := []) (as := []) sX11_goOn (ci := 11) (by decide) rfl nX11_goOn rfl w_1223 w_1225 w_1226 w_830 w_1224 (Nat.le_of_ble_eq_true rfl) dX11_readsMark_108 rfl ?_
        exact c_sub [2, 3, 1, 0] rfl (hJ 2 [.ref x0, .int x1, .int v1, .int v3])
    · refine q_aload_n hC 1 dX11_readsMark_74 rfl rfl ?_
      refine q_aload_n hC 1 dX11_readsMark_75 rfl rfl ?_
      refine q_iload_n hC 0 dX11_readsMark_76 rfl rfl ?_
      refine q_cVI hC hnt (stk := [.ref x0]) (as := [.int v1]) sX11_isPlaceOf (ci := 11) (by decide) rfl nX11_isPlaceOf rfl w_1240 w_1242 w_1243 w_830 w_1241 (Nat.le_of_ble_eq_true rfl) dX11_readsMark_77 rfl (fun v4 => ?_)
      refine q_if_ne hC 87 dX11_readsMark_80 rfl ?_ ?_
      · refine q_iconst hC dX11_readsMark_87 rfl ?_
        refine q_iconst hC dX11_readsMark_88 rfl ?_
        refine q_cVV hC hnt (stk := []) (as := [.int 0, .int 3]) sX11_needs (ci := 11) (by decide) rfl nX11_needs rfl w_1215 w_1217 w_1218 w_830 w_1216 (Nat.le_of_ble_eq_true rfl) dX11_readsMark_89 rfl ?_
        refine q_aload_n hC 1 dX11_readsMark_92 rfl rfl ?_
        refine q_cVV hC hnt (stk := []) (as := []) sX11_goOn (ci := 11) (by decide) rfl nX11_goOn rfl w_1223 w_1225 w_1226 w_830 w_1224 (Nat.le_of_ble_eq_true rfl) dX11_readsMark_93 rfl ?_
        refine q_aload_n hC 1 dX11_readsMark_96 rfl rfl ?_
        refine q_bipush hC (v := 7) dX11_readsMark_97 rfl ?_
        refine q_cVI hC hnt (stk := []) (as := [.int 7]) sX11_isWord (ci := 11) (by decide) rfl nX11_isWord rfl w_1236 w_1238 w_1239 w_830 w_1237 (Nat.le_of_ble_eq_true rfl) dX11_readsMark_99 rfl (fun v5 => ?_)
        refine q_istore_nA hC (loc' := [(3, .int v5), (2, .int v1), (0, .ref x0), (1, .int x1)]) dX11_readsMark_102 rfl (Nat.le_of_ble_eq_true rfl) rfl ?_
        refine q_iload_n hC 0 dX11_readsMark_103 rfl rfl ?_
        refine q_if_eq hC 111 dX11_readsMark_104 rfl ?_ ?_
        · exact c_sub [2, 3, 1, 0] rfl (hJ 2 [.ref x0, .int x1, .int v1, .int v5])
        · refine q_aload_n hC 2 dX11_readsMark_107 rfl rfl ?_
          refine q_cVV hC hnt (stk := []) (as := []) sX11_goOn (ci := 11) (by decide) rfl nX11_goOn rfl w_1223 w_1225 w_1226 w_830 w_1224 (Nat.le_of_ble_eq_true rfl) dX11_readsMark_108 rfl ?_
          exact c_sub [2, 3, 1, 0] rfl (hJ 2 [.ref x0, .int x1, .int v1, .int v5])
      · refine q_iconst hC dX11_readsMark_83 rfl ?_
        refine q_goto hC 88 dX11_readsMark_84 rfl ?_
        refine q_iconst hC dX11_readsMark_88 rfl ?_
        refine q_cVV hC hnt (stk := []) (as := [.int 1, .int 3]) sX11_needs (ci := 11) (by decide) rfl nX11_needs rfl w_1215 w_1217 w_1218 w_830 w_1216 (Nat.le_of_ble_eq_true rfl) dX11_readsMark_89 rfl ?_
        refine q_aload_n hC 1 dX11_readsMark_92 rfl rfl ?_
        refine q_cVV hC hnt (stk := []) (as := []) sX11_goOn (ci := 11) (by decide) rfl nX11_goOn rfl w_1223 w_1225 w_1226 w_830 w_1224 (Nat.le_of_ble_eq_true rfl) dX11_readsMark_93 rfl ?_
        refine q_aload_n hC 1 dX11_readsMark_96 rfl rfl ?_
        refine q_bipush hC (v := 7) dX11_readsMark_97 rfl ?_
        refine q_cVI hC hnt (stk := []) (as := [.int 7]) sX11_isWord (ci := 11) (by decide) rfl nX11_isWord rfl w_1236 w_1238 w_1239 w_830 w_1237 (Nat.le_of_ble_eq_true rfl) dX11_readsMark_99 rfl (fun v6 => ?_)
        refine q_istore_nA hC (loc' := [(3, .int v6), (2, .int v1), (0, .ref x0), (1, .int x1)]) dX11_readsMark_102 rfl (Nat.le_of_ble_eq_true rfl) rfl ?_
        refine q_iload_n hC 0 dX11_readsMark_103 rfl rfl ?_
        refine q_if_eq hC 111 dX11_readsMark_104 rfl ?_ ?_
        · exact c_sub [2, 3, 1, 0] rfl (hJ 2 [.ref x0, .int x1, .int v1, .int v6])
        · refine q_aload_n hC 2 dX11_readsMark_107 rfl rfl ?_
          refine q_cVV hC hnt (stk := []) (as := []) sX11_goOn (ci := 11) (by decide) rfl nX11_goOn rfl w_1223 w_1225 w_1226 w_830 w_1224 (Nat.le_of_ble_eq_true rfl) dX11_readsMark_108 rfl ?_
          exact c_sub [2, 3, 1, 0] rfl (hJ 2 [.ref x0, .int x1, .int v1, .int v6])
  · exact c_no
theorem pX11_readsMark_2 {Γ : CT} (hC : Ctx Γ "SpiritWallModel" cX11_readsMark 6 none rmX11_readsMark) (hnt : NT Γ) (J : JT) (hJ : ∀ L a, Cor Γ 6 (lX11_readsMark L a).1 (lX11_readsMark L a).2.1 (lX11_readsMark L a).2.2.1 (lX11_readsMark L a).2.2.2.1 (lX11_readsMark L a).2.2.2.2 (J L a)) (a : List Value) : Cor Γ 6 0 0 111 (List.zip [0, 1, 2, 3] a) [] (bX11_readsMark_2 J a) := by
  unfold bX11_readsMark_2
  split
  · rename_i x0 x1 x2 x3
    refine c_sub [0, 1, 2, 3] rfl (loc' := [(0, .ref x0), (1, .int x1), (2, .int x2), (3, .int x3)]) ?_
    refine q_iload_n hC 3 dX11_readsMark_111 rfl rfl ?_
    refine q_if_eq hC 128 dX11_readsMark_112 rfl ?_ ?_
    · refine q_iconst hC dX11_readsMark_128 rfl ?_
      refine q_istoreA hC (loc' := [(4, .int 0), (0, .ref x0), (1, .int x1), (2, .int x2), (3, .int x3)]) dX11_readsMark_129 (Nat.le_of_ble_eq_true rfl) rfl ?_
      refine q_aload_n hC 1 dX11_readsMark_131 rfl rfl ?_
      refine q_cVI hC hnt (stk := []) (as := []) sX11_fine (ci := 11) (by decide) rfl nX11_fine rfl w_1207 w_1209 w_1210 w_830 w_1208 (Nat.le_of_ble_eq_true rfl) dX11_readsMark_132 rfl (fun v1 => ?_)
      refine q_if_ne hC 139 dX11_readsMark_135 rfl ?_ ?_
      · refine q_aload_n hC 1 dX11_readsMark_139 rfl rfl ?_
        refine q_cVI hC hnt (stk := []) (as := []) sX11_marks (ci := 11) (by decide) rfl nX11_marks rfl w_843 w_845 w_846 w_830 w_844 (Nat.le_of_ble_eq_true rfl) dX11_readsMark_140 rfl (fun v2 => ?_)
        refine q_istoreA hC (loc' := [(5, .int v2), (4, .int 0), (0, .ref x0), (1, .int x1), (2, .int x2), (3, .int x3)]) dX11_readsMark_143 (Nat.le_of_ble_eq_true rfl) rfl ?_
        refine q_aload_n hC 2 dX11_readsMark_145 rfl rfl ?_
        refine q_iload hC 0 dX11_readsMark_146 rfl ?_
        refine q_iconst hC dX11_readsMark_148 rfl ?_
        refine q_iload_n hC 3 dX11_readsMark_149 rfl rfl ?_
        refine q_cVV hC hnt (stk := []) (as := [.int v2, .int 0, .int x1]) sX11_lays (ci := 11) (by decide) rfl nX11_lays rfl w_1024 w_1026 w_1027 w_830 w_1025 (Nat.le_of_ble_eq_true rfl) dX11_readsMark_150 rfl ?_
        refine q_aload_n hC 2 dX11_readsMark_153 rfl rfl ?_
        refine q_iload hC 0 dX11_readsMark_154 rfl ?_
        refine q_iconst hC dX11_readsMark_156 rfl ?_
        refine q_iload_n hC 4 dX11_readsMark_157 rfl rfl ?_
        refine q_cVV hC hnt (stk := []) (as := [.int v2, .int 1, .int x2]) sX11_lays (ci := 11) (by decide) rfl nX11_lays rfl w_1024 w_1026 w_1027 w_830 w_1025 (Nat.le_of_ble_eq_true rfl) dX11_readsMark_158 rfl ?_
        refine q_aload_n hC 2 dX11_readsMark_161 rfl rfl ?_
        refine q_iload hC 0 dX11_readsMark_162 rfl ?_
        refine q_iconst hC dX11_readsMark_164 rfl ?_
        refine q_iload_n hC 5 dX11_readsMark_165 rfl rfl ?_
        refine q_if_eq hC 173 dX11_readsMark_166 rfl ?_ ?_
        · refine q_iconst hC dX11_readsMark_173 rfl ?_
          refine q_cVV hC hnt (stk := []) (as := [.int v2, .int 2, .int 0]) sX11_lays (ci := 11) (by decide) rfl nX11_lays rfl w_1024 w_1026 w_1027 w_830 w_1025 (Nat.le_of_ble_eq_true rfl) dX11_readsMark_174 rfl ?_
          refine q_aload_n hC 2 dX11_readsMark_177 rfl rfl ?_
          refine q_iload hC 0 dX11_readsMark_178 rfl ?_
          refine q_iconst hC dX11_readsMark_180 rfl ?_
          refine q_iload_n hC 5 dX11_readsMark_181 rfl rfl ?_
          refine q_if_eq hC 189 dX11_readsMark_182 rfl ?_ ?_
          · refine q_iconst hC dX11_readsMark_189 rfl ?_
            refine q_cVV hC hnt (stk := []) (as := [.int v2, .int 3, .int 0]) sX11_lays (ci := 11) (by decide) rfl nX11_lays rfl w_1024 w_1026 w_1027 w_830 w_1025 (Nat.le_of_ble_eq_true rfl) dX11_readsMark_190 rfl ?_
            refine q_aload_n hC 2 dX11_readsMark_193 rfl rfl ?_
            refine q_iload hC 0 dX11_readsMark_194 rfl ?_
            refine q_iconst hC dX11_readsMark_196 rfl ?_
            refine q_iload hC 1 dX11_readsMark_197 rfl ?_
            refine q_cVV hC hnt (stk := []) (as := [.int v2, .int 4, .int 0]) sX11_lays (ci := 11) (by decide) rfl nX11_lays rfl w_1024 w_1026 w_1027 w_830 w_1025 (Nat.le_of_ble_eq_true rfl) dX11_readsMark_199 rfl ?_
            refine q_aload_n hC 2 dX11_readsMark_202 rfl rfl ?_
            refine q_getR hC (by decide) (by decide) rfl w_808 dX11_readsMark_203 (fun r3 => ?_)
            refine q_iconst hC dX11_readsMark_206 rfl ?_
            refine q_iload hC 0 dX11_readsMark_207 rfl ?_
            refine q_iconst hC dX11_readsMark_209 rfl ?_
            refine q_iadd hC dX11_readsMark_210 ?_
            refine q_iast hC dX11_readsMark_211 ?_
            exact q_vret hC dX11_readsMark_212 (Nat.le_of_ble_eq_true rfl) (Nat.le_of_ble_eq_true rfl)
          · refine q_iconst hC dX11_readsMark_185 rfl ?_
            refine q_goto hC 190 dX11_readsMark_186 rfl ?_
            refine q_cVV hC hnt (stk := []) (as := [.int v2, .int 3, .int 1]) sX11_lays (ci := 11) (by decide) rfl nX11_lays rfl w_1024 w_1026 w_1027 w_830 w_1025 (Nat.le_of_ble_eq_true rfl) dX11_readsMark_190 rfl ?_
            refine q_aload_n hC 2 dX11_readsMark_193 rfl rfl ?_
            refine q_iload hC 0 dX11_readsMark_194 rfl ?_
            refine q_iconst hC dX11_readsMark_196 rfl ?_
            refine q_iload hC 1 dX11_readsMark_197 rfl ?_
            refine q_cVV hC hnt (stk := []) (as := [.int v2, .int 4, .int 0]) sX11_lays (ci := 11) (by decide) rfl nX11_lays rfl w_1024 w_1026 w_1027 w_830 w_1025 (Nat.le_of_ble_eq_true rfl) dX11_readsMark_199 rfl ?_
            refine q_aload_n hC 2 dX11_readsMark_202 rfl rfl ?_
            refine q_getR hC (by decide) (by decide) rfl w_808 dX11_readsMark_203 (fun r4 => ?_)
            refine q_iconst hC dX11_readsMark_206 rfl ?_
            refine q_iload hC 0 dX11_readsMark_207 rfl ?_
            refine q_iconst hC dX11_readsMark_209 rfl ?_
            refine q_iadd hC dX11_readsMark_210 ?_
            refine q_iast hC dX11_readsMark_211 ?_
            exact q_vret hC dX11_readsMark_212 (Nat.le_of_ble_eq_true rfl) (Nat.le_of_ble_eq_true rfl)
        · refine q_iconst hC dX11_readsMark_169 rfl ?_
          refine q_goto hC 174 dX11_readsMark_170 rfl ?_
          refine q_cVV hC hnt (stk := []) (as := [.int v2, .int 2, .int 1]) sX11_lays (ci := 11) (by decide) rfl nX11_lays rfl w_1024 w_1026 w_1027 w_830 w_1025 (Nat.le_of_ble_eq_true rfl) dX11_readsMark_174 rfl ?_
          refine q_aload_n hC 2 dX11_readsMark_177 rfl rfl ?_
          refine q_iload hC 0 dX11_readsMark_178 rfl ?_
          refine q_iconst hC dX11_readsMark_180 rfl ?_
          refine q_iload_n hC 5 dX11_readsMark_181 rfl rfl ?_
          refine q_if_eq hC 189 dX11_readsMark_182 rfl ?_ ?_
          · refine q_iconst hC dX11_readsMark_189 rfl ?_
            refine q_cVV hC hnt (stk := []) (as := [.int v2, .int 3, .int 0]) sX11_lays (ci := 11) (by decide) rfl nX11_lays rfl w_1024 w_1026 w_1027 w_830 w_1025 (Nat.le_of_ble_eq_true rfl) dX11_readsMark_190 rfl ?_
            refine q_aload_n hC 2 dX11_readsMark_193 rfl rfl ?_
            refine q_iload hC 0 dX11_readsMark_194 rfl ?_
            refine q_iconst hC dX11_readsMark_196 rfl ?_
            refine q_iload hC 1 dX11_readsMark_197 rfl ?_
            refine q_cVV hC hnt (stk := []) (as := [.int v2, .int 4, .int 0]) sX11_lays (ci := 11) (by decide) rfl nX11_lays rfl w_1024 w_1026 w_1027 w_830 w_1025 (Nat.le_of_ble_eq_true rfl) dX11_readsMark_199 rfl ?_
            refine q_aload_n hC 2 dX11_readsMark_202 rfl rfl ?_
            refine q_getR hC (by decide) (by decide) rfl w_808 dX11_readsMark_203 (fun r5 => ?_)
            refine q_iconst hC dX11_readsMark_206 rfl ?_
            refine q_iload hC 0 dX11_readsMark_207 rfl ?_
            refine q_iconst hC dX11_readsMark_209 rfl ?_
            refine q_iadd hC dX11_readsMark_210 ?_
            refine q_iast hC dX11_readsMark_211 ?_
            exact q_vret hC dX11_readsMark_212 (Nat.le_of_ble_eq_true rfl) (Nat.le_of_ble_eq_true rfl)
          · refine q_iconst hC dX11_readsMark_185 rfl ?_
            refine q_goto hC 190 dX11_readsMark_186 rfl ?_
            refine q_cVV hC hnt (stk := []) (as := [.int v2, .int 3, .int 1]) sX11_lays (ci := 11) (by decide) rfl nX11_lays rfl w_1024 w_1026 w_1027 w_830 w_1025 (Nat.le_of_ble_eq_true rfl) dX11_readsMark_190 rfl ?_
            refine q_aload_n hC 2 dX11_readsMark_193 rfl rfl ?_
            refine q_iload hC 0 dX11_readsMark_194 rfl ?_
            refine q_iconst hC dX11_readsMark_196 rfl ?_
            refine q_iload hC 1 dX11_readsMark_197 rfl ?_
            refine q_cVV hC hnt (stk := []) (as := [.int v2, .int 4, .int 0]) sX11_lays (ci := 11) (by decide) rfl nX11_lays rfl w_1024 w_1026 w_1027 w_830 w_1025 (Nat.le_of_ble_eq_true rfl) dX11_readsMark_199 rfl ?_
            refine q_aload_n hC 2 dX11_readsMark_202 rfl rfl ?_
            refine q_getR hC (by decide) (by decide) rfl w_808 dX11_readsMark_203 (fun r6 => ?_)
            refine q_iconst hC dX11_readsMark_206 rfl ?_
            refine q_iload hC 0 dX11_readsMark_207 rfl ?_
            refine q_iconst hC dX11_readsMark_209 rfl ?_
            refine q_iadd hC dX11_readsMark_210 ?_
            refine q_iast hC dX11_readsMark_211 ?_
            exact q_vret hC dX11_readsMark_212 (Nat.le_of_ble_eq_true rfl) (Nat.le_of_ble_eq_true rfl)
      · exact q_vret hC dX11_readsMark_138 (Nat.le_of_ble_eq_true rfl) (Nat.le_of_ble_eq_true rfl)
    · refine q_aload_n hC 0 dX11_readsMark_115 rfl rfl ?_
      refine q_ldcw hC w_1244 dX11_readsMark_116 ?_
      refine q_ldcw hC w_1235 dX11_readsMark_119 ?_
      refine q_cVI hC hnt (stk := []) (as := [.int (-99999), .int 99999]) sX11_signed (ci := 11) (by decide) rfl nX11_signed rfl w_1245 w_1247 w_1248 w_830 w_1246 (Nat.le_of_ble_eq_true rfl) dX11_readsMark_122 rfl (fun v7 => ?_)
      refine q_goto hC 129 dX11_readsMark_125 rfl ?_
      refine q_istoreA hC (loc' := [(4, .int v7), (0, .ref x0), (1, .int x1), (2, .int x2), (3, .int x3)]) dX11_readsMark_129 (Nat.le_of_ble_eq_true rfl) rfl ?_
      refine q_aload_n hC 1 dX11_readsMark_131 rfl rfl ?_
      refine q_cVI hC hnt (stk := []) (as := []) sX11_fine (ci := 11) (by decide) rfl nX11_fine rfl w_1207 w_1209 w_1210 w_830 w_1208 (Nat.le_of_ble_eq_true rfl) dX11_readsMark_132 rfl (fun v8 => ?_)
      refine q_if_ne hC 139 dX11_readsMark_135 rfl ?_ ?_
      · refine q_aload_n hC 1 dX11_readsMark_139 rfl rfl ?_
        refine q_cVI hC hnt (stk := []) (as := []) sX11_marks (ci := 11) (by decide) rfl nX11_marks rfl w_843 w_845 w_846 w_830 w_844 (Nat.le_of_ble_eq_true rfl) dX11_readsMark_140 rfl (fun v9 => ?_)
        refine q_istoreA hC (loc' := [(5, .int v9), (4, .int v7), (0, .ref x0), (1, .int x1), (2, .int x2), (3, .int x3)]) dX11_readsMark_143 (Nat.le_of_ble_eq_true rfl) rfl ?_
        refine q_aload_n hC 2 dX11_readsMark_145 rfl rfl ?_
        refine q_iload hC 0 dX11_readsMark_146 rfl ?_
        refine q_iconst hC dX11_readsMark_148 rfl ?_
        refine q_iload_n hC 3 dX11_readsMark_149 rfl rfl ?_
        refine q_cVV hC hnt (stk := []) (as := [.int v9, .int 0, .int x1]) sX11_lays (ci := 11) (by decide) rfl nX11_lays rfl w_1024 w_1026 w_1027 w_830 w_1025 (Nat.le_of_ble_eq_true rfl) dX11_readsMark_150 rfl ?_
        refine q_aload_n hC 2 dX11_readsMark_153 rfl rfl ?_
        refine q_iload hC 0 dX11_readsMark_154 rfl ?_
        refine q_iconst hC dX11_readsMark_156 rfl ?_
        refine q_iload_n hC 4 dX11_readsMark_157 rfl rfl ?_
        refine q_cVV hC hnt (stk := []) (as := [.int v9, .int 1, .int x2]) sX11_lays (ci := 11) (by decide) rfl nX11_lays rfl w_1024 w_1026 w_1027 w_830 w_1025 (Nat.le_of_ble_eq_true rfl) dX11_readsMark_158 rfl ?_
        refine q_aload_n hC 2 dX11_readsMark_161 rfl rfl ?_
        refine q_iload hC 0 dX11_readsMark_162 rfl ?_
        refine q_iconst hC dX11_readsMark_164 rfl ?_
        refine q_iload_n hC 5 dX11_readsMark_165 rfl rfl ?_
        refine q_if_eq hC 173 dX11_readsMark_166 rfl ?_ ?_
        · refine q_iconst hC dX11_readsMark_173 rfl ?_
          refine q_cVV hC hnt (stk := []) (as := [.int v9, .int 2, .int 0]) sX11_lays (ci := 11) (by decide) rfl nX11_lays rfl w_1024 w_1026 w_1027 w_830 w_1025 (Nat.le_of_ble_eq_true rfl) dX11_readsMark_174 rfl ?_
          refine q_aload_n hC 2 dX11_readsMark_177 rfl rfl ?_
          refine q_iload hC 0 dX11_readsMark_178 rfl ?_
          refine q_iconst hC dX11_readsMark_180 rfl ?_
          refine q_iload_n hC 5 dX11_readsMark_181 rfl rfl ?_
          refine q_if_eq hC 189 dX11_readsMark_182 rfl ?_ ?_
          · refine q_iconst hC dX11_readsMark_189 rfl ?_
            refine q_cVV hC hnt (stk := []) (as := [.int v9, .int 3, .int 0]) sX11_lays (ci := 11) (by decide) rfl nX11_lays rfl w_1024 w_1026 w_1027 w_830 w_1025 (Nat.le_of_ble_eq_true rfl) dX11_readsMark_190 rfl ?_
            refine q_aload_n hC 2 dX11_readsMark_193 rfl rfl ?_
            refine q_iload hC 0 dX11_readsMark_194 rfl ?_
            refine q_iconst hC dX11_readsMark_196 rfl ?_
            refine q_iload hC 1 dX11_readsMark_197 rfl ?_
            refine q_cVV hC hnt (stk := []) (as := [.int v9, .int 4, .int v7]) sX11_lays (ci := 11) (by decide) rfl nX11_lays rfl w_1024 w_1026 w_1027 w_830 w_1025 (Nat.le_of_ble_eq_true rfl) dX11_readsMark_199 rfl ?_
            refine q_aload_n hC 2 dX11_readsMark_202 rfl rfl ?_
            refine q_getR hC (by decide) (by decide) rfl w_808 dX11_readsMark_203 (fun r10 => ?_)
            refine q_iconst hC dX11_readsMark_206 rfl ?_
            refine q_iload hC 0 dX11_readsMark_207 rfl ?_
            refine q_iconst hC dX11_readsMark_209 rfl ?_
            refine q_iadd hC dX11_readsMark_210 ?_
            refine q_iast hC dX11_readsMark_211 ?_
            exact q_vret hC dX11_readsMark_212 (Nat.le_of_ble_eq_true rfl) (Nat.le_of_ble_eq_true rfl)
          · refine q_iconst hC dX11_readsMark_185 rfl ?_
            refine q_goto hC 190 dX11_readsMark_186 rfl ?_
            refine q_cVV hC hnt (stk := []) (as := [.int v9, .int 3, .int 1]) sX11_lays (ci := 11) (by decide) rfl nX11_lays rfl w_1024 w_1026 w_1027 w_830 w_1025 (Nat.le_of_ble_eq_true rfl) dX11_readsMark_190 rfl ?_
            refine q_aload_n hC 2 dX11_readsMark_193 rfl rfl ?_
            refine q_iload hC 0 dX11_readsMark_194 rfl ?_
            refine q_iconst hC dX11_readsMark_196 rfl ?_
            refine q_iload hC 1 dX11_readsMark_197 rfl ?_
            refine q_cVV hC hnt (stk := []) (as := [.int v9, .int 4, .int v7]) sX11_lays (ci := 11) (by decide) rfl nX11_lays rfl w_1024 w_1026 w_1027 w_830 w_1025 (Nat.le_of_ble_eq_true rfl) dX11_readsMark_199 rfl ?_
            refine q_aload_n hC 2 dX11_readsMark_202 rfl rfl ?_
            refine q_getR hC (by decide) (by decide) rfl w_808 dX11_readsMark_203 (fun r11 => ?_)
            refine q_iconst hC dX11_readsMark_206 rfl ?_
            refine q_iload hC 0 dX11_readsMark_207 rfl ?_
            refine q_iconst hC dX11_readsMark_209 rfl ?_
            refine q_iadd hC dX11_readsMark_210 ?_
            refine q_iast hC dX11_readsMark_211 ?_
            exact q_vret hC dX11_readsMark_212 (Nat.le_of_ble_eq_true rfl) (Nat.le_of_ble_eq_true rfl)
        · refine q_iconst hC dX11_readsMark_169 rfl ?_
          refine q_goto hC 174 dX11_readsMark_170 rfl ?_
          refine q_cVV hC hnt (stk := []) (as := [.int v9, .int 2, .int 1]) sX11_lays (ci := 11) (by decide) rfl nX11_lays rfl w_1024 w_1026 w_1027 w_830 w_1025 (Nat.le_of_ble_eq_true rfl) dX11_readsMark_174 rfl ?_
          refine q_aload_n hC 2 dX11_readsMark_177 rfl rfl ?_
          refine q_iload hC 0 dX11_readsMark_178 rfl ?_
          refine q_iconst hC dX11_readsMark_180 rfl ?_
          refine q_iload_n hC 5 dX11_readsMark_181 rfl rfl ?_
          refine q_if_eq hC 189 dX11_readsMark_182 rfl ?_ ?_
          · refine q_iconst hC dX11_readsMark_189 rfl ?_
            refine q_cVV hC hnt (stk := []) (as := [.int v9, .int 3, .int 0]) sX11_lays (ci := 11) (by decide) rfl nX11_lays rfl w_1024 w_1026 w_1027 w_830 w_1025 (Nat.le_of_ble_eq_true rfl) dX11_readsMark_190 rfl ?_
            refine q_aload_n hC 2 dX11_readsMark_193 rfl rfl ?_
            refine q_iload hC 0 dX11_readsMark_194 rfl ?_
            refine q_iconst hC dX11_readsMark_196 rfl ?_
            refine q_iload hC 1 dX11_readsMark_197 rfl ?_
            refine q_cVV hC hnt (stk := []) (as := [.int v9, .int 4, .int v7]) sX11_lays (ci := 11) (by decide) rfl nX11_lays rfl w_1024 w_1026 w_1027 w_830 w_1025 (Nat.le_of_ble_eq_true rfl) dX11_readsMark_199 rfl ?_
            refine q_aload_n hC 2 dX11_readsMark_202 rfl rfl ?_
            refine q_getR hC (by decide) (by decide) rfl w_808 dX11_readsMark_203 (fun r12 => ?_)
            refine q_iconst hC dX11_readsMark_206 rfl ?_
            refine q_iload hC 0 dX11_readsMark_207 rfl ?_
            refine q_iconst hC dX11_readsMark_209 rfl ?_
            refine q_iadd hC dX11_readsMark_210 ?_
            refine q_iast hC dX11_readsMark_211 ?_
            exact q_vret hC dX11_readsMark_212 (Nat.le_of_ble_eq_true rfl) (Nat.le_of_ble_eq_true rfl)
          · refine q_iconst hC dX11_readsMark_185 rfl ?_
            refine q_goto hC 190 dX11_readsMark_186 rfl ?_
            refine q_cVV hC hnt (stk := []) (as := [.int v9, .int 3, .int 1]) sX11_lays (ci := 11) (by decide) rfl nX11_lays rfl w_1024 w_1026 w_1027 w_830 w_1025 (Nat.le_of_ble_eq_true rfl) dX11_readsMark_190 rfl ?_
            refine q_aload_n hC 2 dX11_readsMark_193 rfl rfl ?_
            refine q_iload hC 0 dX11_readsMark_194 rfl ?_
            refine q_iconst hC dX11_readsMark_196 rfl ?_
            refine q_iload hC 1 dX11_readsMark_197 rfl ?_
            refine q_cVV hC hnt (stk := []) (as := [.int v9, .int 4, .int v7]) sX11_lays (ci := 11) (by decide) rfl nX11_lays rfl w_1024 w_1026 w_1027 w_830 w_1025 (Nat.le_of_ble_eq_true rfl) dX11_readsMark_199 rfl ?_
            refine q_aload_n hC 2 dX11_readsMark_202 rfl rfl ?_
            refine q_getR hC (by decide) (by decide) rfl w_808 dX11_readsMark_203 (fun r13 => ?_)
            refine q_iconst hC dX11_readsMark_206 rfl ?_
            refine q_iload hC 0 dX11_readsMark_207 rfl ?_
            refine q_iconst hC dX11_readsMark_209 rfl ?_
            refine q_iadd hC dX11_readsMark_210 ?_
            refine q_iast hC dX11_readsMark_211 ?_
            exact q_vret hC dX11_readsMark_212 (Nat.le_of_ble_eq_true rfl) (Nat.le_of_ble_eq_true rfl)
      · exact q_vret hC dX11_readsMark_138 (Nat.le_of_ble_eq_true rfl) (Nat.le_of_ble_eq_true rfl)
  · exact c_no
theorem sX11_readsMark : Snd yX11_readsMark (.code yX11_readsMark cX11_readsMark 6 none) rmX11_readsMark SX11_readsMark := by
  refine Snd.of lX11_readsMark (by decide +kernel) (fun _ => rfl) ?_
  intro Γ hC hnt hnm J hJ L a
  match L with
  | 0 => exact pX11_readsMark_0 hC hnt J hJ a
  | 1 => exact pX11_readsMark_1 hC hnt J hJ a
  | 2 => exact pX11_readsMark_2 hC hnt J hJ a
  | L + 3 => exact c_no
/-! SpiritWallModel.markHere(I)I -/
theorem dX11_markHere_0 : decode cX11_markHere 0 = .ok (.aload_n 0, 1) := by decide +kernel
theorem dX11_markHere_1 : decode cX11_markHere 1 = .ok (.invokevirtual 464, 3) := by decide +kernel
theorem dX11_markHere_4 : decode cX11_markHere 4 = .ok (.istore_n 2, 1) := by decide +kernel
theorem dX11_markHere_5 : decode cX11_markHere 5 = .ok (.aload_n 0, 1) := by decide +kernel
theorem dX11_markHere_6 : decode cX11_markHere 6 = .ok (.invokevirtual 444, 3) := by decide +kernel
theorem dX11_markHere_9 : decode cX11_markHere 9 = .ok (.ifCond .eq 11, 3) := by decide +kernel
theorem dX11_markHere_12 : decode cX11_markHere 12 = .ok (.aload_n 0, 1) := by decide +kernel
theorem dX11_markHere_13 : decode cX11_markHere 13 = .ok (.iload_n 2, 1) := by decide +kernel
theorem dX11_markHere_14 : decode cX11_markHere 14 = .ok (.invokevirtual 438, 3) := by decide +kernel
theorem dX11_markHere_17 : decode cX11_markHere 17 = .ok (.goto 4, 3) := by decide +kernel
theorem dX11_markHere_20 : decode cX11_markHere 20 = .ok (.iconst 0, 1) := by decide +kernel
theorem dX11_markHere_21 : decode cX11_markHere 21 = .ok (.istore_n 3, 1) := by decide +kernel
theorem dX11_markHere_22 : decode cX11_markHere 22 = .ok (.aload_n 0, 1) := by decide +kernel
theorem dX11_markHere_23 : decode cX11_markHere 23 = .ok (.invokevirtual 444, 3) := by decide +kernel
theorem dX11_markHere_26 : decode cX11_markHere 26 = .ok (.ifCond .eq 23, 3) := by decide +kernel
theorem dX11_markHere_29 : decode cX11_markHere 29 = .ok (.aload_n 0, 1) := by decide +kernel
theorem dX11_markHere_30 : decode cX11_markHere 30 = .ok (.iload_n 3, 1) := by decide +kernel
theorem dX11_markHere_31 : decode cX11_markHere 31 = .ok (.iconst (-1), 1) := by decide +kernel
theorem dX11_markHere_32 : decode cX11_markHere 32 = .ok (.if_icmp .eq 8, 3) := by decide +kernel
theorem dX11_markHere_35 : decode cX11_markHere 35 = .ok (.iload_n 3, 1) := by decide +kernel
theorem dX11_markHere_36 : decode cX11_markHere 36 = .ok (.iload_n 1, 1) := by decide +kernel
theorem dX11_markHere_37 : decode cX11_markHere 37 = .ok (.if_icmp .eq 7, 3) := by decide +kernel
theorem dX11_markHere_40 : decode cX11_markHere 40 = .ok (.iconst 1, 1) := by decide +kernel
theorem dX11_markHere_41 : decode cX11_markHere 41 = .ok (.goto 4, 3) := by decide +kernel
theorem dX11_markHere_44 : decode cX11_markHere 44 = .ok (.iconst 0, 1) := by decide +kernel
theorem dX11_markHere_45 : decode cX11_markHere 45 = .ok (.iconst 3, 1) := by decide +kernel
theorem dX11_markHere_46 : decode cX11_markHere 46 = .ok (.invokevirtual 451, 3) := by decide +kernel
theorem dX11_markHere_49 : decode cX11_markHere 49 = .ok (.aload_n 0, 1) := by decide +kernel
theorem dX11_markHere_50 : decode cX11_markHere 50 = .ok (.iload_n 3, 1) := by decide +kernel
theorem dX11_markHere_51 : decode cX11_markHere 51 = .ok (.iconst (-1), 1) := by decide +kernel
theorem dX11_markHere_52 : decode cX11_markHere 52 = .ok (.if_icmp .eq 7, 3) := by decide +kernel
theorem dX11_markHere_55 : decode cX11_markHere 55 = .ok (.iconst 1, 1) := by decide +kernel
theorem dX11_markHere_56 : decode cX11_markHere 56 = .ok (.goto 4, 3) := by decide +kernel
theorem dX11_markHere_59 : decode cX11_markHere 59 = .ok (.iconst 0, 1) := by decide +kernel
theorem dX11_markHere_60 : decode cX11_markHere 60 = .ok (.iconst 4, 1) := by decide +kernel
theorem dX11_markHere_61 : decode cX11_markHere 61 = .ok (.invokevirtual 451, 3) := by decide +kernel
theorem dX11_markHere_64 : decode cX11_markHere 64 = .ok (.aload_n 0, 1) := by decide +kernel
theorem dX11_markHere_65 : decode cX11_markHere 65 = .ok (.invokevirtual 458, 3) := by decide +kernel
theorem dX11_markHere_68 : decode cX11_markHere 68 = .ok (.iload_n 3, 1) := by decide +kernel
theorem dX11_markHere_69 : decode cX11_markHere 69 = .ok (.ireturn, 1) := by decide +kernel
def rmX11_markHere : Room := rmk 24 0 0 685
theorem nX11_markHere : nameOk yX11_markHere 1 = true := by decide +kernel
def bX11_markHere_0 (J : JT) : List Value → Sem
  | [.ref x0, .int x1] =>
    ob 11 x0 (cI SX11_nameHere [.ref x0] fun v1 =>
    ob 11 x0 (cI SX11_fine [.ref x0] fun v2 =>
    br (v2 = 0)
    (ob 11 x0 (cI SX11_fine [.ref x0] fun v3 =>
    br (v3 = 0)
    (J 1 [.ref x0, .int 0])
    (br ((0 : Int32) = ((-1) : Int32))
    (ob 11 x0 (cV SX11_needs [.ref x0, .int 1, .int 3] <|
    J 1 [.ref x0, .int 0]))
    (br ((0 : Int32) = x1)
    (ob 11 x0 (cV SX11_needs [.ref x0, .int 0, .int 3] <|
    J 1 [.ref x0, .int 0]))
    (ob 11 x0 (cV SX11_needs [.ref x0, .int 1, .int 3] <|
    J 1 [.ref x0, .int 0]))))))
    (ob 11 x0 (cI SX11_named [.ref x0, .int v1] fun v4 =>
    ob 11 x0 (cI SX11_fine [.ref x0] fun v5 =>
    br (v5 = 0)
    (J 1 [.ref x0, .int v4])
    (br (v4 = ((-1) : Int32))
    (ob 11 x0 (cV SX11_needs [.ref x0, .int 1, .int 3] <|
    J 1 [.ref x0, .int v4]))
    (br (v4 = x1)
    (ob 11 x0 (cV SX11_needs [.ref x0, .int 0, .int 3] <|
    J 1 [.ref x0, .int v4]))
    (ob 11 x0 (cV SX11_needs [.ref x0, .int 1, .int 3] <|
    J 1 [.ref x0, .int v4])))))))))
  | _ => no
def bX11_markHere_1 (J : JT) : List Value → Sem
  | [.ref x0, .int x3] =>
    br (x3 = ((-1) : Int32))
    (ob 11 x0 (cV SX11_needs [.ref x0, .int 0, .int 4] <|
    ob 11 x0 (cV SX11_goOn [.ref x0] <|
    rI x3)))
    (ob 11 x0 (cV SX11_needs [.ref x0, .int 1, .int 4] <|
    ob 11 x0 (cV SX11_goOn [.ref x0] <|
    rI x3)))
  | _ => no
def bX11_markHere (J : JT) : JT := fun L a => match L with
  | 0 => bX11_markHere_0 J a
  | 1 => bX11_markHere_1 J a
  | _ => no
def SX11_markHere : ST := mk 4 bX11_markHere
def lX11_markHere (L : Nat) (a : List Value) : Nat × Nat × Nat × List (Nat × Value) × List Value := match L with
  | 0 => (0, 0, 0, lv_args 0 a, [])
  | 1 => (0, 0, 49, List.zip [0, 3] a, [])
  | _ => (0, 0, 0, [], [])
theorem pX11_markHere_0 {Γ : CT} (hC : Ctx Γ "SpiritWallModel" cX11_markHere 4 (some .int) rmX11_markHere) (hnt : NT Γ) (J : JT) (hJ : ∀ L a, Cor Γ 4 (lX11_markHere L a).1 (lX11_markHere L a).2.1 (lX11_markHere L a).2.2.1 (lX11_markHere L a).2.2.2.1 (lX11_markHere L a).2.2.2.2 (J L a)) (a : List Value) : Cor Γ 4 0 0 0 (lv_args 0 a) [] (bX11_markHere_0 J a) := by
  unfold bX11_markHere_0
  split
  · rename_i x0 x1
    refine c_sub [0, 1] rfl (loc' := [(0, .ref x0), (1, .int x1)]) ?_
    refine q_aload_n hC 0 dX11_markHere_0 rfl rfl ?_
    refine q_cVI hC hnt (stk := []) (as := []) sX11_nameHere (ci := 11) (by decide) rfl nX11_nameHere rfl w_1231 w_1233 w_1234 w_830 w_1232 (Nat.le_of_ble_eq_true rfl) dX11_markHere_1 rfl (fun v1 => ?_)
    refine q_istore_nA hC (loc' := [(2, .int v1), (0, .ref x0), (1, .int x1)]) dX11_markHere_4 rfl (Nat.le_of_ble_eq_true rfl) rfl ?_
    refine q_aload_n hC 1 dX11_markHere_5 rfl rfl ?_
    refine q_cVI hC hnt (stk := []) (as := []) sX11_fine (ci := 11) (by decide) rfl nX11_fine rfl w_1207 w_1209 w_1210 w_830 w_1208 (Nat.le_of_ble_eq_true rfl) dX11_markHere_6 rfl (fun v2 => ?_)
    refine q_if_eq hC 20 dX11_markHere_9 rfl ?_ ?_
    · refine q_iconst hC dX11_markHere_20 rfl ?_
      refine q_istore_nA hC (loc' := [(3, .int 0), (2, .int v1), (0, .ref x0), (1, .int x1)]) dX11_markHere_21 rfl (Nat.le_of_ble_eq_true rfl) rfl ?_
      refine q_aload_n hC 2 dX11_markHere_22 rfl rfl ?_
      refine q_cVI hC hnt (stk := []) (as := []) sX11_fine (ci := 11) (by decide) rfl nX11_fine rfl w_1207 w_1209 w_1210 w_830 w_1208 (Nat.le_of_ble_eq_true rfl) dX11_markHere_23 rfl (fun v3 => ?_)
      refine q_if_eq hC 49 dX11_markHere_26 rfl ?_ ?_
      · exact c_sub [2, 0] rfl (hJ 1 [.ref x0, .int 0])
      · refine q_aload_n hC 2 dX11_markHere_29 rfl rfl ?_
        refine q_iload_n hC 0 dX11_markHere_30 rfl rfl ?_
        refine q_iconst hC dX11_markHere_31 rfl ?_
        refine q_ic_eq hC 40 dX11_markHere_32 rfl ?_ ?_
        · refine q_iconst hC dX11_markHere_40 rfl ?_
          refine q_goto hC 45 dX11_markHere_41 rfl ?_
          refine q_iconst hC dX11_markHere_45 rfl ?_
          refine q_cVV hC hnt (stk := []) (as := [.int 1, .int 3]) sX11_needs (ci := 11) (by decide) rfl nX11_needs rfl w_1215 w_1217 w_1218 w_830 w_1216 (Nat.le_of_ble_eq_true rfl) dX11_markHere_46 rfl ?_
          exact c_sub [2, 0] rfl (hJ 1 [.ref x0, .int 0])
        · refine q_iload_n hC 0 dX11_markHere_35 rfl rfl ?_
          refine q_iload_n hC 3 dX11_markHere_36 rfl rfl ?_
          refine q_ic_eq hC 44 dX11_markHere_37 rfl ?_ ?_
          · refine q_iconst hC dX11_markHere_44 rfl ?_
            refine q_iconst hC dX11_markHere_45 rfl ?_
            refine q_cVV hC hnt (stk := []) (as := [.int 0, .int 3]) sX11_needs (ci := 11) (by decide) rfl nX11_needs rfl w_1215 w_1217 w_1218 w_830 w_1216 (Nat.le_of_ble_eq_true rfl) dX11_markHere_46 rfl ?_
            exact c_sub [2, 0] rfl (hJ 1 [.ref x0, .int 0])
          · refine q_iconst hC dX11_markHere_40 rfl ?_
            refine q_goto hC 45 dX11_markHere_41 rfl ?_
            refine q_iconst hC dX11_markHere_45 rfl ?_
            refine q_cVV hC hnt (stk := []) (as := [.int 1, .int 3]) sX11_needs (ci := 11) (by decide) rfl nX11_needs rfl w_1215 w_1217 w_1218 w_830 w_1216 (Nat.le_of_ble_eq_true rfl) dX11_markHere_46 rfl ?_
            exact c_sub [2, 0] rfl (hJ 1 [.ref x0, .int 0])
    · refine q_aload_n hC 1 dX11_markHere_12 rfl rfl ?_
      refine q_iload_n hC 0 dX11_markHere_13 rfl rfl ?_
      refine q_cVI hC hnt (stk := []) (as := [.int v1]) sX11_named (ci := 11) (by decide) rfl nX11_named rfl w_1202 w_1204 w_1205 w_830 w_1203 (Nat.le_of_ble_eq_true rfl) dX11_markHere_14 rfl (fun v4 => ?_)
      refine q_goto hC 21 dX11_markHere_17 rfl ?_
      refine q_istore_nA hC (loc' := [(3, .int v4), (2, .int v1), (0, .ref x0), (1, .int x1)]) dX11_markHere_21 rfl (Nat.le_of_ble_eq_true rfl) rfl ?_
      refine q_aload_n hC 2 dX11_markHere_22 rfl rfl ?_
      refine q_cVI hC hnt (stk := []) (as := []) sX11_fine (ci := 11) (by decide) rfl nX11_fine rfl w_1207 w_1209 w_1210 w_830 w_1208 (Nat.le_of_ble_eq_true rfl) dX11_markHere_23 rfl (fun v5 => ?_)
      refine q_if_eq hC 49 dX11_markHere_26 rfl ?_ ?_
      · exact c_sub [2, 0] rfl (hJ 1 [.ref x0, .int v4])
      · refine q_aload_n hC 2 dX11_markHere_29 rfl rfl ?_
        refine q_iload_n hC 0 dX11_markHere_30 rfl rfl ?_
        refine q_iconst hC dX11_markHere_31 rfl ?_
        refine q_ic_eq hC 40 dX11_markHere_32 rfl ?_ ?_
        · refine q_iconst hC dX11_markHere_40 rfl ?_
          refine q_goto hC 45 dX11_markHere_41 rfl ?_
          refine q_iconst hC dX11_markHere_45 rfl ?_
          refine q_cVV hC hnt (stk := []) (as := [.int 1, .int 3]) sX11_needs (ci := 11) (by decide) rfl nX11_needs rfl w_1215 w_1217 w_1218 w_830 w_1216 (Nat.le_of_ble_eq_true rfl) dX11_markHere_46 rfl ?_
          exact c_sub [2, 0] rfl (hJ 1 [.ref x0, .int v4])
        · refine q_iload_n hC 0 dX11_markHere_35 rfl rfl ?_
          refine q_iload_n hC 3 dX11_markHere_36 rfl rfl ?_
          refine q_ic_eq hC 44 dX11_markHere_37 rfl ?_ ?_
          · refine q_iconst hC dX11_markHere_44 rfl ?_
            refine q_iconst hC dX11_markHere_45 rfl ?_
            refine q_cVV hC hnt (stk := []) (as := [.int 0, .int 3]) sX11_needs (ci := 11) (by decide) rfl nX11_needs rfl w_1215 w_1217 w_1218 w_830 w_1216 (Nat.le_of_ble_eq_true rfl) dX11_markHere_46 rfl ?_
            exact c_sub [2, 0] rfl (hJ 1 [.ref x0, .int v4])
          · refine q_iconst hC dX11_markHere_40 rfl ?_
            refine q_goto hC 45 dX11_markHere_41 rfl ?_
            refine q_iconst hC dX11_markHere_45 rfl ?_
            refine q_cVV hC hnt (stk := []) (as := [.int 1, .int 3]) sX11_needs (ci := 11) (by decide) rfl nX11_needs rfl w_1215 w_1217 w_1218 w_830 w_1216 (Nat.le_of_ble_eq_true rfl) dX11_markHere_46 rfl ?_
            exact c_sub [2, 0] rfl (hJ 1 [.ref x0, .int v4])
  · exact c_no
theorem pX11_markHere_1 {Γ : CT} (hC : Ctx Γ "SpiritWallModel" cX11_markHere 4 (some .int) rmX11_markHere) (hnt : NT Γ) (J : JT) (hJ : ∀ L a, Cor Γ 4 (lX11_markHere L a).1 (lX11_markHere L a).2.1 (lX11_markHere L a).2.2.1 (lX11_markHere L a).2.2.2.1 (lX11_markHere L a).2.2.2.2 (J L a)) (a : List Value) : Cor Γ 4 0 0 49 (List.zip [0, 3] a) [] (bX11_markHere_1 J a) := by
  unfold bX11_markHere_1
  split
  · rename_i x0 x3
    refine c_sub [0, 1] rfl (loc' := [(0, .ref x0), (3, .int x3)]) ?_
    refine q_aload_n hC 0 dX11_markHere_49 rfl rfl ?_
    refine q_iload_n hC 1 dX11_markHere_50 rfl rfl ?_
    refine q_iconst hC dX11_markHere_51 rfl ?_
    refine q_ic_eq hC 59 dX11_markHere_52 rfl ?_ ?_
    · refine q_iconst hC dX11_markHere_59 rfl ?_
      refine q_iconst hC dX11_markHere_60 rfl ?_
      refine q_cVV hC hnt (stk := []) (as := [.int 0, .int 4]) sX11_needs (ci := 11) (by decide) rfl nX11_needs rfl w_1215 w_1217 w_1218 w_830 w_1216 (Nat.le_of_ble_eq_true rfl) dX11_markHere_61 rfl ?_
      refine q_aload_n hC 0 dX11_markHere_64 rfl rfl ?_
      refine q_cVV hC hnt (stk := []) (as := []) sX11_goOn (ci := 11) (by decide) rfl nX11_goOn rfl w_1223 w_1225 w_1226 w_830 w_1224 (Nat.le_of_ble_eq_true rfl) dX11_markHere_65 rfl ?_
      refine q_iload_n hC 1 dX11_markHere_68 rfl rfl ?_
      exact q_iret hC dX11_markHere_69 (Nat.le_of_ble_eq_true rfl) (Nat.le_of_ble_eq_true rfl)
    · refine q_iconst hC dX11_markHere_55 rfl ?_
      refine q_goto hC 60 dX11_markHere_56 rfl ?_
      refine q_iconst hC dX11_markHere_60 rfl ?_
      refine q_cVV hC hnt (stk := []) (as := [.int 1, .int 4]) sX11_needs (ci := 11) (by decide) rfl nX11_needs rfl w_1215 w_1217 w_1218 w_830 w_1216 (Nat.le_of_ble_eq_true rfl) dX11_markHere_61 rfl ?_
      refine q_aload_n hC 0 dX11_markHere_64 rfl rfl ?_
      refine q_cVV hC hnt (stk := []) (as := []) sX11_goOn (ci := 11) (by decide) rfl nX11_goOn rfl w_1223 w_1225 w_1226 w_830 w_1224 (Nat.le_of_ble_eq_true rfl) dX11_markHere_65 rfl ?_
      refine q_iload_n hC 1 dX11_markHere_68 rfl rfl ?_
      exact q_iret hC dX11_markHere_69 (Nat.le_of_ble_eq_true rfl) (Nat.le_of_ble_eq_true rfl)
  · exact c_no
theorem sX11_markHere : Snd yX11_markHere (.code yX11_markHere cX11_markHere 4 (some .int)) rmX11_markHere SX11_markHere := by
  refine Snd.of lX11_markHere (by decide +kernel) (fun _ => rfl) ?_
  intro Γ hC hnt hnm J hJ L a
  match L with
  | 0 => exact pX11_markHere_0 hC hnt J hJ a
  | 1 => exact pX11_markHere_1 hC hnt J hJ a
  | L + 2 => exact c_no
/-! SpiritWallModel.readsSight()V -/
theorem dX11_readsSight_0 : decode cX11_readsSight 0 = .ok (.aload_n 0, 1) := by decide +kernel
theorem dX11_readsSight_1 : decode cX11_readsSight 1 = .ok (.aload_n 0, 1) := by decide +kernel
theorem dX11_readsSight_2 : decode cX11_readsSight 2 = .ok (.invokevirtual 97, 3) := by decide +kernel
theorem dX11_readsSight_5 : decode cX11_readsSight 5 = .ok (.bipush 40, 2) := by decide +kernel
theorem dX11_readsSight_7 : decode cX11_readsSight 7 = .ok (.if_icmp .ge 7, 3) := by decide +kernel
theorem dX11_readsSight_10 : decode cX11_readsSight 10 = .ok (.iconst 1, 1) := by decide +kernel
theorem dX11_readsSight_11 : decode cX11_readsSight 11 = .ok (.goto 4, 3) := by decide +kernel
theorem dX11_readsSight_14 : decode cX11_readsSight 14 = .ok (.iconst 0, 1) := by decide +kernel
theorem dX11_readsSight_15 : decode cX11_readsSight 15 = .ok (.iconst 5, 1) := by decide +kernel
theorem dX11_readsSight_16 : decode cX11_readsSight 16 = .ok (.invokevirtual 451, 3) := by decide +kernel
theorem dX11_readsSight_19 : decode cX11_readsSight 19 = .ok (.aload_n 0, 1) := by decide +kernel
theorem dX11_readsSight_20 : decode cX11_readsSight 20 = .ok (.invokevirtual 458, 3) := by decide +kernel
theorem dX11_readsSight_23 : decode cX11_readsSight 23 = .ok (.aload_n 0, 1) := by decide +kernel
theorem dX11_readsSight_24 : decode cX11_readsSight 24 = .ok (.iconst (-1), 1) := by decide +kernel
theorem dX11_readsSight_25 : decode cX11_readsSight 25 = .ok (.invokevirtual 478, 3) := by decide +kernel
theorem dX11_readsSight_28 : decode cX11_readsSight 28 = .ok (.istore_n 1, 1) := by decide +kernel
theorem dX11_readsSight_29 : decode cX11_readsSight 29 = .ok (.aload_n 0, 1) := by decide +kernel
theorem dX11_readsSight_30 : decode cX11_readsSight 30 = .ok (.iload_n 1, 1) := by decide +kernel
theorem dX11_readsSight_31 : decode cX11_readsSight 31 = .ok (.invokevirtual 478, 3) := by decide +kernel
theorem dX11_readsSight_34 : decode cX11_readsSight 34 = .ok (.istore_n 2, 1) := by decide +kernel
theorem dX11_readsSight_35 : decode cX11_readsSight 35 = .ok (.aload_n 0, 1) := by decide +kernel
theorem dX11_readsSight_36 : decode cX11_readsSight 36 = .ok (.aload_n 0, 1) := by decide +kernel
theorem dX11_readsSight_37 : decode cX11_readsSight 37 = .ok (.bipush 8, 2) := by decide +kernel
theorem dX11_readsSight_39 : decode cX11_readsSight 39 = .ok (.invokevirtual 471, 3) := by decide +kernel
theorem dX11_readsSight_42 : decode cX11_readsSight 42 = .ok (.ifCond .ne 12, 3) := by decide +kernel
theorem dX11_readsSight_45 : decode cX11_readsSight 45 = .ok (.aload_n 0, 1) := by decide +kernel
theorem dX11_readsSight_46 : decode cX11_readsSight 46 = .ok (.bipush 9, 2) := by decide +kernel
theorem dX11_readsSight_48 : decode cX11_readsSight 48 = .ok (.invokevirtual 471, 3) := by decide +kernel
theorem dX11_readsSight_51 : decode cX11_readsSight 51 = .ok (.ifCond .eq 7, 3) := by decide +kernel
theorem dX11_readsSight_54 : decode cX11_readsSight 54 = .ok (.iconst 1, 1) := by decide +kernel
theorem dX11_readsSight_55 : decode cX11_readsSight 55 = .ok (.goto 4, 3) := by decide +kernel
theorem dX11_readsSight_58 : decode cX11_readsSight 58 = .ok (.iconst 0, 1) := by decide +kernel
theorem dX11_readsSight_59 : decode cX11_readsSight 59 = .ok (.iconst 1, 1) := by decide +kernel
theorem dX11_readsSight_60 : decode cX11_readsSight 60 = .ok (.invokevirtual 451, 3) := by decide +kernel
theorem dX11_readsSight_63 : decode cX11_readsSight 63 = .ok (.aload_n 0, 1) := by decide +kernel
theorem dX11_readsSight_64 : decode cX11_readsSight 64 = .ok (.bipush 9, 2) := by decide +kernel
theorem dX11_readsSight_66 : decode cX11_readsSight 66 = .ok (.invokevirtual 471, 3) := by decide +kernel
theorem dX11_readsSight_69 : decode cX11_readsSight 69 = .ok (.ifCond .eq 7, 3) := by decide +kernel
theorem dX11_readsSight_72 : decode cX11_readsSight 72 = .ok (.iconst 1, 1) := by decide +kernel
theorem dX11_readsSight_73 : decode cX11_readsSight 73 = .ok (.goto 4, 3) := by decide +kernel
theorem dX11_readsSight_76 : decode cX11_readsSight 76 = .ok (.iconst 0, 1) := by decide +kernel
theorem dX11_readsSight_77 : decode cX11_readsSight 77 = .ok (.istore_n 3, 1) := by decide +kernel
theorem dX11_readsSight_78 : decode cX11_readsSight 78 = .ok (.aload_n 0, 1) := by decide +kernel
theorem dX11_readsSight_79 : decode cX11_readsSight 79 = .ok (.invokevirtual 458, 3) := by decide +kernel
theorem dX11_readsSight_82 : decode cX11_readsSight 82 = .ok (.aload_n 0, 1) := by decide +kernel
theorem dX11_readsSight_83 : decode cX11_readsSight 83 = .ok (.sipush (-9999), 3) := by decide +kernel
theorem dX11_readsSight_86 : decode cX11_readsSight 86 = .ok (.sipush 9999, 3) := by decide +kernel
theorem dX11_readsSight_89 : decode cX11_readsSight 89 = .ok (.invokevirtual 475, 3) := by decide +kernel
theorem dX11_readsSight_92 : decode cX11_readsSight 92 = .ok (.istore 4, 2) := by decide +kernel
theorem dX11_readsSight_94 : decode cX11_readsSight 94 = .ok (.aload_n 0, 1) := by decide +kernel
theorem dX11_readsSight_95 : decode cX11_readsSight 95 = .ok (.bipush 10, 2) := by decide +kernel
theorem dX11_readsSight_97 : decode cX11_readsSight 97 = .ok (.invokevirtual 471, 3) := by decide +kernel
theorem dX11_readsSight_100 : decode cX11_readsSight 100 = .ok (.istore 5, 2) := by decide +kernel
theorem dX11_readsSight_102 : decode cX11_readsSight 102 = .ok (.iload 5, 2) := by decide +kernel
theorem dX11_readsSight_104 : decode cX11_readsSight 104 = .ok (.ifCond .eq 7, 3) := by decide +kernel
theorem dX11_readsSight_107 : decode cX11_readsSight 107 = .ok (.aload_n 0, 1) := by decide +kernel
theorem dX11_readsSight_108 : decode cX11_readsSight 108 = .ok (.invokevirtual 458, 3) := by decide +kernel
theorem dX11_readsSight_111 : decode cX11_readsSight 111 = .ok (.iload 5, 2) := by decide +kernel
theorem dX11_readsSight_113 : decode cX11_readsSight 113 = .ok (.ifCond .eq 14, 3) := by decide +kernel
theorem dX11_readsSight_116 : decode cX11_readsSight 116 = .ok (.aload_n 0, 1) := by decide +kernel
theorem dX11_readsSight_117 : decode cX11_readsSight 117 = .ok (.bipush (-40), 2) := by decide +kernel
theorem dX11_readsSight_119 : decode cX11_readsSight 119 = .ok (.bipush 60, 2) := by decide +kernel
theorem dX11_readsSight_121 : decode cX11_readsSight 121 = .ok (.invokevirtual 475, 3) := by decide +kernel
theorem dX11_readsSight_124 : decode cX11_readsSight 124 = .ok (.goto 5, 3) := by decide +kernel
theorem dX11_readsSight_127 : decode cX11_readsSight 127 = .ok (.bipush 20, 2) := by decide +kernel
theorem dX11_readsSight_129 : decode cX11_readsSight 129 = .ok (.istore 6, 2) := by decide +kernel
theorem dX11_readsSight_131 : decode cX11_readsSight 131 = .ok (.aload_n 0, 1) := by decide +kernel
theorem dX11_readsSight_132 : decode cX11_readsSight 132 = .ok (.invokevirtual 444, 3) := by decide +kernel
theorem dX11_readsSight_135 : decode cX11_readsSight 135 = .ok (.ifCond .ne 4, 3) := by decide +kernel
theorem dX11_readsSight_138 : decode cX11_readsSight 138 = .ok (.return_, 1) := by decide +kernel
theorem dX11_readsSight_139 : decode cX11_readsSight 139 = .ok (.aload_n 0, 1) := by decide +kernel
theorem dX11_readsSight_140 : decode cX11_readsSight 140 = .ok (.iload_n 1, 1) := by decide +kernel
theorem dX11_readsSight_141 : decode cX11_readsSight 141 = .ok (.iload_n 2, 1) := by decide +kernel
theorem dX11_readsSight_142 : decode cX11_readsSight 142 = .ok (.iload_n 3, 1) := by decide +kernel
theorem dX11_readsSight_143 : decode cX11_readsSight 143 = .ok (.iload 4, 2) := by decide +kernel
theorem dX11_readsSight_145 : decode cX11_readsSight 145 = .ok (.iload 6, 2) := by decide +kernel
theorem dX11_readsSight_147 : decode cX11_readsSight 147 = .ok (.invokevirtual 365, 3) := by decide +kernel
theorem dX11_readsSight_150 : decode cX11_readsSight 150 = .ok (.istore 7, 2) := by decide +kernel
theorem dX11_readsSight_152 : decode cX11_readsSight 152 = .ok (.return_, 1) := by decide +kernel
def rmX11_readsSight : Room := rmk 26 0 0 732
theorem nX11_readsSight : nameOk yX11_readsSight 0 = true := by decide +kernel
def bX11_readsSight_0 (J : JT) : List Value → Sem
  | [.ref x0] =>
    ob 11 x0 (cI SX11_sights [.ref x0] fun v1 =>
    br ((40 : Int32) ≤ v1)
    (ob 11 x0 (cV SX11_needs [.ref x0, .int 0, .int 5] <|
    ob 11 x0 (cV SX11_goOn [.ref x0] <|
    ob 11 x0 (cI SX11_markHere [.ref x0, .int (-1)] fun v2 =>
    ob 11 x0 (cI SX11_markHere [.ref x0, .int v2] fun v3 =>
    ob 11 x0 (cI SX11_isWord [.ref x0, .int 8] fun v4 =>
    br (v4 = 0)
    (ob 11 x0 (cI SX11_isWord [.ref x0, .int 9] fun v10 =>
    br (v10 = 0)
    (ob 11 x0 (cV SX11_needs [.ref x0, .int 0, .int 1] <|
    ob 11 x0 (cI SX11_isWord [.ref x0, .int 9] fun v11 =>
    br (v11 = 0)
    (ob 11 x0 (cV SX11_goOn [.ref x0] <|
    ob 11 x0 (cI SX11_signed [.ref x0, .int (-9999), .int 9999] fun v12 =>
    ob 11 x0 (cI SX11_isWord [.ref x0, .int 10] fun v13 =>
    br (v13 = 0)
    (J 1 [.ref x0, .int v2, .int v3, .int 0, .int v12, .int v13])
    (ob 11 x0 (cV SX11_goOn [.ref x0] <|
    J 1 [.ref x0, .int v2, .int v3, .int 0, .int v12, .int v13]))))))
    (ob 11 x0 (cV SX11_goOn [.ref x0] <|
    ob 11 x0 (cI SX11_signed [.ref x0, .int (-9999), .int 9999] fun v14 =>
    ob 11 x0 (cI SX11_isWord [.ref x0, .int 10] fun v15 =>
    br (v15 = 0)
    (J 1 [.ref x0, .int v2, .int v3, .int 1, .int v14, .int v15])
    (ob 11 x0 (cV SX11_goOn [.ref x0] <|
    J 1 [.ref x0, .int v2, .int v3, .int 1, .int v14, .int v15])))))))))
    (ob 11 x0 (cV SX11_needs [.ref x0, .int 1, .int 1] <|
    ob 11 x0 (cI SX11_isWord [.ref x0, .int 9] fun v16 =>
    br (v16 = 0)
    (ob 11 x0 (cV SX11_goOn [.ref x0] <|
    ob 11 x0 (cI SX11_signed [.ref x0, .int (-9999), .int 9999] fun v17 =>
    ob 11 x0 (cI SX11_isWord [.ref x0, .int 10] fun v18 =>
    br (v18 = 0)
    (J 1 [.ref x0, .int v2, .int v3, .int 0, .int v17, .int v18])
    (ob 11 x0 (cV SX11_goOn [.ref x0] <|
    J 1 [.ref x0, .int v2, .int v3, .int 0, .int v17, .int v18]))))))
    (ob 11 x0 (cV SX11_goOn [.ref x0] <|
    ob 11 x0 (cI SX11_signed [.ref x0, .int (-9999), .int 9999] fun v19 =>
    ob 11 x0 (cI SX11_isWord [.ref x0, .int 10] fun v20 =>
    br (v20 = 0)
    (J 1 [.ref x0, .int v2, .int v3, .int 1, .int v19, .int v20])
    (ob 11 x0 (cV SX11_goOn [.ref x0] <|
    J 1 [.ref x0, .int v2, .int v3, .int 1, .int v19, .int v20])))))))))))
    (ob 11 x0 (cV SX11_needs [.ref x0, .int 1, .int 1] <|
    ob 11 x0 (cI SX11_isWord [.ref x0, .int 9] fun v5 =>
    br (v5 = 0)
    (ob 11 x0 (cV SX11_goOn [.ref x0] <|
    ob 11 x0 (cI SX11_signed [.ref x0, .int (-9999), .int 9999] fun v6 =>
    ob 11 x0 (cI SX11_isWord [.ref x0, .int 10] fun v7 =>
    br (v7 = 0)
    (J 1 [.ref x0, .int v2, .int v3, .int 0, .int v6, .int v7])
    (ob 11 x0 (cV SX11_goOn [.ref x0] <|
    J 1 [.ref x0, .int v2, .int v3, .int 0, .int v6, .int v7]))))))
    (ob 11 x0 (cV SX11_goOn [.ref x0] <|
    ob 11 x0 (cI SX11_signed [.ref x0, .int (-9999), .int 9999] fun v8 =>
    ob 11 x0 (cI SX11_isWord [.ref x0, .int 10] fun v9 =>
    br (v9 = 0)
    (J 1 [.ref x0, .int v2, .int v3, .int 1, .int v8, .int v9])
    (ob 11 x0 (cV SX11_goOn [.ref x0] <|
    J 1 [.ref x0, .int v2, .int v3, .int 1, .int v8, .int v9])))))))))))))))
    (ob 11 x0 (cV SX11_needs [.ref x0, .int 1, .int 5] <|
    ob 11 x0 (cV SX11_goOn [.ref x0] <|
    ob 11 x0 (cI SX11_markHere [.ref x0, .int (-1)] fun v21 =>
    ob 11 x0 (cI SX11_markHere [.ref x0, .int v21] fun v22 =>
    ob 11 x0 (cI SX11_isWord [.ref x0, .int 8] fun v23 =>
    br (v23 = 0)
    (ob 11 x0 (cI SX11_isWord [.ref x0, .int 9] fun v29 =>
    br (v29 = 0)
    (ob 11 x0 (cV SX11_needs [.ref x0, .int 0, .int 1] <|
    ob 11 x0 (cI SX11_isWord [.ref x0, .int 9] fun v30 =>
    br (v30 = 0)
    (ob 11 x0 (cV SX11_goOn [.ref x0] <|
    ob 11 x0 (cI SX11_signed [.ref x0, .int (-9999), .int 9999] fun v31 =>
    ob 11 x0 (cI SX11_isWord [.ref x0, .int 10] fun v32 =>
    br (v32 = 0)
    (J 1 [.ref x0, .int v21, .int v22, .int 0, .int v31, .int v32])
    (ob 11 x0 (cV SX11_goOn [.ref x0] <|
    J 1 [.ref x0, .int v21, .int v22, .int 0, .int v31, .int v32]))))))
    (ob 11 x0 (cV SX11_goOn [.ref x0] <|
    ob 11 x0 (cI SX11_signed [.ref x0, .int (-9999), .int 9999] fun v33 =>
    ob 11 x0 (cI SX11_isWord [.ref x0, .int 10] fun v34 =>
    br (v34 = 0)
    (J 1 [.ref x0, .int v21, .int v22, .int 1, .int v33, .int v34])
    (ob 11 x0 (cV SX11_goOn [.ref x0] <|
    J 1 [.ref x0, .int v21, .int v22, .int 1, .int v33, .int v34])))))))))
    (ob 11 x0 (cV SX11_needs [.ref x0, .int 1, .int 1] <|
    ob 11 x0 (cI SX11_isWord [.ref x0, .int 9] fun v35 =>
    br (v35 = 0)
    (ob 11 x0 (cV SX11_goOn [.ref x0] <|
    ob 11 x0 (cI SX11_signed [.ref x0, .int (-9999), .int 9999] fun v36 =>
    ob 11 x0 (cI SX11_isWord [.ref x0, .int 10] fun v37 =>
    br (v37 = 0)
    (J 1 [.ref x0, .int v21, .int v22, .int 0, .int v36, .int v37])
    (ob 11 x0 (cV SX11_goOn [.ref x0] <|
    J 1 [.ref x0, .int v21, .int v22, .int 0, .int v36, .int v37]))))))
    (ob 11 x0 (cV SX11_goOn [.ref x0] <|
    ob 11 x0 (cI SX11_signed [.ref x0, .int (-9999), .int 9999] fun v38 =>
    ob 11 x0 (cI SX11_isWord [.ref x0, .int 10] fun v39 =>
    br (v39 = 0)
    (J 1 [.ref x0, .int v21, .int v22, .int 1, .int v38, .int v39])
    (ob 11 x0 (cV SX11_goOn [.ref x0] <|
    J 1 [.ref x0, .int v21, .int v22, .int 1, .int v38, .int v39])))))))))))
    (ob 11 x0 (cV SX11_needs [.ref x0, .int 1, .int 1] <|
    ob 11 x0 (cI SX11_isWord [.ref x0, .int 9] fun v24 =>
    br (v24 = 0)
    (ob 11 x0 (cV SX11_goOn [.ref x0] <|
    ob 11 x0 (cI SX11_signed [.ref x0, .int (-9999), .int 9999] fun v25 =>
    ob 11 x0 (cI SX11_isWord [.ref x0, .int 10] fun v26 =>
    br (v26 = 0)
    (J 1 [.ref x0, .int v21, .int v22, .int 0, .int v25, .int v26])
    (ob 11 x0 (cV SX11_goOn [.ref x0] <|
    J 1 [.ref x0, .int v21, .int v22, .int 0, .int v25, .int v26]))))))
    (ob 11 x0 (cV SX11_goOn [.ref x0] <|
    ob 11 x0 (cI SX11_signed [.ref x0, .int (-9999), .int 9999] fun v27 =>
    ob 11 x0 (cI SX11_isWord [.ref x0, .int 10] fun v28 =>
    br (v28 = 0)
    (J 1 [.ref x0, .int v21, .int v22, .int 1, .int v27, .int v28])
    (ob 11 x0 (cV SX11_goOn [.ref x0] <|
    J 1 [.ref x0, .int v21, .int v22, .int 1, .int v27, .int v28]))))))))))))))))
  | _ => no
def bX11_readsSight_1 (J : JT) : List Value → Sem
  | [.ref x0, .int x1, .int x2, .int x3, .int x4, .int x5] =>
    br (x5 = 0)
    (ob 11 x0 (cI SX11_fine [.ref x0] fun v1 =>
    br (v1 = 0)
    (rV)
    (ob 11 x0 (cI SX11_addsSight [.ref x0, .int x1, .int x2, .int x3, .int x4, .int 20] fun v2 =>
    rV))))
    (ob 11 x0 (cI SX11_signed [.ref x0, .int (-40), .int 60] fun v3 =>
    ob 11 x0 (cI SX11_fine [.ref x0] fun v4 =>
    br (v4 = 0)
    (rV)
    (ob 11 x0 (cI SX11_addsSight [.ref x0, .int x1, .int x2, .int x3, .int x4, .int v3] fun v5 =>
    rV)))))
  | _ => no
def bX11_readsSight (J : JT) : JT := fun L a => match L with
  | 0 => bX11_readsSight_0 J a
  | 1 => bX11_readsSight_1 J a
  | _ => no
def SX11_readsSight : ST := mk 8 bX11_readsSight
def lX11_readsSight (L : Nat) (a : List Value) : Nat × Nat × Nat × List (Nat × Value) × List Value := match L with
  | 0 => (0, 0, 0, lv_args 0 a, [])
  | 1 => (0, 0, 111, List.zip [0, 1, 2, 3, 4, 5] a, [])
  | _ => (0, 0, 0, [], [])
theorem pX11_readsSight_0 {Γ : CT} (hC : Ctx Γ "SpiritWallModel" cX11_readsSight 8 none rmX11_readsSight) (hnt : NT Γ) (J : JT) (hJ : ∀ L a, Cor Γ 8 (lX11_readsSight L a).1 (lX11_readsSight L a).2.1 (lX11_readsSight L a).2.2.1 (lX11_readsSight L a).2.2.2.1 (lX11_readsSight L a).2.2.2.2 (J L a)) (a : List Value) : Cor Γ 8 0 0 0 (lv_args 0 a) [] (bX11_readsSight_0 J a) := by
  unfold bX11_readsSight_0
  split
  · rename_i x0
    refine c_sub [0] rfl (loc' := [(0, .ref x0)]) ?_
    refine q_aload_n hC 0 dX11_readsSight_0 rfl rfl ?_
    refine q_aload_n hC 0 dX11_readsSight_1 rfl rfl ?_
    refine q_cVI hC hnt (stk := [.ref x0]) (as := []) sX11_sights (ci := 11) (by decide) rfl nX11_sights rfl w_854 w_856 w_857 w_830 w_855 (Nat.le_of_ble_eq_true rfl) dX11_readsSight_2 rfl (fun v1 => ?_)
    refine q_bipush hC (v := 40) dX11_readsSight_5 rfl ?_
    refine q_ic_ge hC 14 dX11_readsSight_7 rfl ?_ ?_
    · refine q_iconst hC dX11_readsSight_14 rfl ?_
      refine q_iconst hC dX11_readsSight_15 rfl ?_
      refine q_cVV hC hnt (stk := []) (as := [.int 0, .int 5]) sX11_needs (ci := 11) (by decide) rfl nX11_needs rfl w_1215 w_1217 w_1218 w_830 w_1216 (Nat.le_of_ble_eq_true rfl) dX11_readsSight_16 rfl ?_
      refine q_aload_n hC 0 dX11_readsSight_19 rfl rfl ?_
      refine q_cVV hC hnt (stk := []) (as := []) sX11_goOn (ci := 11) (by decide) rfl nX11_goOn rfl w_1223 w_1225 w_1226 w_830 w_1224 (Nat.le_of_ble_eq_true rfl) dX11_readsSight_20 rfl ?_
      refine q_aload_n hC 0 dX11_readsSight_23 rfl rfl ?_
      refine q_iconst hC dX11_readsSight_24 rfl ?_
      refine q_cVI hC hnt (stk := []) (as := [.int (-1)]) sX11_markHere (ci := 11) (by decide) rfl nX11_markHere rfl w_1249 w_1251 w_1252 w_830 w_1250 (Nat.le_of_ble_eq_true rfl) dX11_readsSight_25 rfl (fun v2 => ?_)
      refine q_istore_nA hC (loc' := [(1, .int v2), (0, .ref x0)]) dX11_readsSight_28 rfl (Nat.le_of_ble_eq_true rfl) rfl ?_
      refine q_aload_n hC 1 dX11_readsSight_29 rfl rfl ?_
      refine q_iload_n hC 0 dX11_readsSight_30 rfl rfl ?_
      refine q_cVI hC hnt (stk := []) (as := [.int v2]) sX11_markHere (ci := 11) (by decide) rfl nX11_markHere rfl w_1249 w_1251 w_1252 w_830 w_1250 (Nat.le_of_ble_eq_true rfl) dX11_readsSight_31 rfl (fun v3 => ?_)
      refine q_istore_nA hC (loc' := [(2, .int v3), (1, .int v2), (0, .ref x0)]) dX11_readsSight_34 rfl (Nat.le_of_ble_eq_true rfl) rfl ?_
      refine q_aload_n hC 2 dX11_readsSight_35 rfl rfl ?_
      refine q_aload_n hC 2 dX11_readsSight_36 rfl rfl ?_
      refine q_bipush hC (v := 8) dX11_readsSight_37 rfl ?_
      refine q_cVI hC hnt (stk := [.ref x0]) (as := [.int 8]) sX11_isWord (ci := 11) (by decide) rfl nX11_isWord rfl w_1236 w_1238 w_1239 w_830 w_1237 (Nat.le_of_ble_eq_true rfl) dX11_readsSight_39 rfl (fun v4 => ?_)
      refine q_if_ne hC 54 dX11_readsSight_42 rfl ?_ ?_
      · refine q_iconst hC dX11_readsSight_54 rfl ?_
        refine q_goto hC 59 dX11_readsSight_55 rfl ?_
        refine q_iconst hC dX11_readsSight_59 rfl ?_
        refine q_cVV hC hnt (stk := []) (as := [.int 1, .int 1]) sX11_needs (ci := 11) (by decide) rfl nX11_needs rfl w_1215 w_1217 w_1218 w_830 w_1216 (Nat.le_of_ble_eq_true rfl) dX11_readsSight_60 rfl ?_
        refine q_aload_n hC 2 dX11_readsSight_63 rfl rfl ?_
        refine q_bipush hC (v := 9) dX11_readsSight_64 rfl ?_
        refine q_cVI hC hnt (stk := []) (as := [.int 9]) sX11_isWord (ci := 11) (by decide) rfl nX11_isWord rfl w_1236 w_1238 w_1239 w_830 w_1237 (Nat.le_of_ble_eq_true rfl) dX11_readsSight_66 rfl (fun v5 => ?_)
        refine q_if_eq hC 76 dX11_readsSight_69 rfl ?_ ?_
        · refine q_iconst hC dX11_readsSight_76 rfl ?_
          refine q_istore_nA hC (loc' := [(3, .int 0), (2, .int v3), (1, .int v2), (0, .ref x0)]) dX11_readsSight_77 rfl (Nat.le_of_ble_eq_true rfl) rfl ?_
          refine q_aload_n hC 3 dX11_readsSight_78 rfl rfl ?_
          refine q_cVV hC hnt (stk := []) (as := []) sX11_goOn (ci := 11) (by decide) rfl nX11_goOn rfl w_1223 w_1225 w_1226 w_830 w_1224 (Nat.le_of_ble_eq_true rfl) dX11_readsSight_79 rfl ?_
          refine q_aload_n hC 3 dX11_readsSight_82 rfl rfl ?_
          refine q_sipush hC (v := (-9999)) dX11_readsSight_83 rfl ?_
          refine q_sipush hC (v := 9999) dX11_readsSight_86 rfl ?_
          refine q_cVI hC hnt (stk := []) (as := [.int (-9999), .int 9999]) sX11_signed (ci := 11) (by decide) rfl nX11_signed rfl w_1245 w_1247 w_1248 w_830 w_1246 (Nat.le_of_ble_eq_true rfl) dX11_readsSight_89 rfl (fun v6 => ?_)
          refine q_istoreA hC (loc' := [(4, .int v6), (3, .int 0), (2, .int v3), (1, .int v2), (0, .ref x0)]) dX11_readsSight_92 (Nat.le_of_ble_eq_true rfl) rfl ?_
          refine q_aload_n hC 4 dX11_readsSight_94 rfl rfl ?_
          refine q_bipush hC (v := 10) dX11_readsSight_95 rfl ?_
          refine q_cVI hC hnt (stk := []) (as := [.int 10]) sX11_isWord (ci := 11) (by decide) rfl nX11_isWord rfl w_1236 w_1238 w_1239 w_830 w_1237 (Nat.le_of_ble_eq_true rfl) dX11_readsSight_97 rfl (fun v7 => ?_)
          refine q_istoreA hC (loc' := [(5, .int v7), (4, .int v6), (3, .int 0), (2, .int v3), (1, .int v2), (0, .ref x0)]) dX11_readsSight_100 (Nat.le_of_ble_eq_true rfl) rfl ?_
          refine q_iload hC 0 dX11_readsSight_102 rfl ?_
          refine q_if_eq hC 111 dX11_readsSight_104 rfl ?_ ?_
          · exact c_sub [5, 4, 3, 2, 1, 0] rfl (hJ 1 [.ref x0, .int v2, .int v3, .int 0, .int v6, .int v7])
          · refine q_aload_n hC 5 dX11_readsSight_107 rfl rfl ?_
            refine q_cVV hC hnt (stk := []) (as := []) sX11_goOn (ci := 11) (by decide) rfl nX11_goOn rfl w_1223 w_1225 w_1226 w_830 w_1224 (Nat.le_of_ble_eq_true rfl) dX11_readsSight_108 rfl ?_
            exact c_sub [5, 4, 3, 2, 1, 0] rfl (hJ 1 [.ref x0, .int v2, .int v3, .int 0, .int v6, .int v7])
        · refine q_iconst hC dX11_readsSight_72 rfl ?_
          refine q_goto hC 77 dX11_readsSight_73 rfl ?_
          refine q_istore_nA hC (loc' := [(3, .int 1), (2, .int v3), (1, .int v2), (0, .ref x0)]) dX11_readsSight_77 rfl (Nat.le_of_ble_eq_true rfl) rfl ?_
          refine q_aload_n hC 3 dX11_readsSight_78 rfl rfl ?_
          refine q_cVV hC hnt (stk := []) (as := []) sX11_goOn (ci := 11) (by decide) rfl nX11_goOn rfl w_1223 w_1225 w_1226 w_830 w_1224 (Nat.le_of_ble_eq_true rfl) dX11_readsSight_79 rfl ?_
          refine q_aload_n hC 3 dX11_readsSight_82 rfl rfl ?_
          refine q_sipush hC (v := (-9999)) dX11_readsSight_83 rfl ?_
          refine q_sipush hC (v := 9999) dX11_readsSight_86 rfl ?_
          refine q_cVI hC hnt (stk := []) (as := [.int (-9999), .int 9999]) sX11_signed (ci := 11) (by decide) rfl nX11_signed rfl w_1245 w_1247 w_1248 w_830 w_1246 (Nat.le_of_ble_eq_true rfl) dX11_readsSight_89 rfl (fun v8 => ?_)
          refine q_istoreA hC (loc' := [(4, .int v8), (3, .int 1), (2, .int v3), (1, .int v2), (0, .ref x0)]) dX11_readsSight_92 (Nat.le_of_ble_eq_true rfl) rfl ?_
          refine q_aload_n hC 4 dX11_readsSight_94 rfl rfl ?_
          refine q_bipush hC (v := 10) dX11_readsSight_95 rfl ?_
          refine q_cVI hC hnt (stk := []) (as := [.int 10]) sX11_isWord (ci := 11) (by decide) rfl nX11_isWord rfl w_1236 w_1238 w_1239 w_830 w_1237 (Nat.le_of_ble_eq_true rfl) dX11_readsSight_97 rfl (fun v9 => ?_)
          refine q_istoreA hC (loc' := [(5, .int v9), (4, .int v8), (3, .int 1), (2, .int v3), (1, .int v2), (0, .ref x0)]) dX11_readsSight_100 (Nat.le_of_ble_eq_true rfl) rfl ?_
          refine q_iload hC 0 dX11_readsSight_102 rfl ?_
          refine q_if_eq hC 111 dX11_readsSight_104 rfl ?_ ?_
          · exact c_sub [5, 4, 3, 2, 1, 0] rfl (hJ 1 [.ref x0, .int v2, .int v3, .int 1, .int v8, .int v9])
          · refine q_aload_n hC 5 dX11_readsSight_107 rfl rfl ?_
            refine q_cVV hC hnt (stk := []) (as := []) sX11_goOn (ci := 11) (by decide) rfl nX11_goOn rfl w_1223 w_1225 w_1226 w_830 w_1224 (Nat.le_of_ble_eq_true rfl) dX11_readsSight_108 rfl ?_
            exact c_sub [5, 4, 3, 2, 1, 0] rfl (hJ 1 [.ref x0, .int v2, .int v3, .int 1, .int v8, .int v9])
      · refine q_aload_n hC 2 dX11_readsSight_45 rfl rfl ?_
        refine q_bipush hC (v := 9) dX11_readsSight_46 rfl ?_
        refine q_cVI hC hnt (stk := [.ref x0]) (as := [.int 9]) sX11_isWord (ci := 11) (by decide) rfl nX11_isWord rfl w_1236 w_1238 w_1239 w_830 w_1237 (Nat.le_of_ble_eq_true rfl) dX11_readsSight_48 rfl (fun v10 => ?_)
        refine q_if_eq hC 58 dX11_readsSight_51 rfl ?_ ?_
        · refine q_iconst hC dX11_readsSight_58 rfl ?_
          refine q_iconst hC dX11_readsSight_59 rfl ?_
          refine q_cVV hC hnt (stk := []) (as := [.int 0, .int 1]) sX11_needs (ci := 11) (by decide) rfl nX11_needs rfl w_1215 w_1217 w_1218 w_830 w_1216 (Nat.le_of_ble_eq_true rfl) dX11_readsSight_60 rfl ?_
          refine q_aload_n hC 2 dX11_readsSight_63 rfl rfl ?_
          refine q_bipush hC (v := 9) dX11_readsSight_64 rfl ?_
          refine q_cVI hC hnt (stk := []) (as := [.int 9]) sX11_isWord (ci := 11) (by decide) rfl nX11_isWord rfl w_1236 w_1238 w_1239 w_830 w_1237 (Nat.le_of_ble_eq_true rfl) dX11_readsSight_66 rfl (fun v11 => ?_)
          refine q_if_eq hC 76 dX11_readsSight_69 rfl ?_ ?_
          · refine q_iconst hC dX11_readsSight_76 rfl ?_
            refine q_istore_nA hC (loc' := [(3, .int 0), (2, .int v3), (1, .int v2), (0, .ref x0)]) dX11_readsSight_77 rfl (Nat.le_of_ble_eq_true rfl) rfl ?_
            refine q_aload_n hC 3 dX11_readsSight_78 rfl rfl ?_
            refine q_cVV hC hnt (stk := []) (as := []) sX11_goOn (ci := 11) (by decide) rfl nX11_goOn rfl w_1223 w_1225 w_1226 w_830 w_1224 (Nat.le_of_ble_eq_true rfl) dX11_readsSight_79 rfl ?_
            refine q_aload_n hC 3 dX11_readsSight_82 rfl rfl ?_
            refine q_sipush hC (v := (-9999)) dX11_readsSight_83 rfl ?_
            refine q_sipush hC (v := 9999) dX11_readsSight_86 rfl ?_
            refine q_cVI hC hnt (stk := []) (as := [.int (-9999), .int 9999]) sX11_signed (ci := 11) (by decide) rfl nX11_signed rfl w_1245 w_1247 w_1248 w_830 w_1246 (Nat.le_of_ble_eq_true rfl) dX11_readsSight_89 rfl (fun v12 => ?_)
            refine q_istoreA hC (loc' := [(4, .int v12), (3, .int 0), (2, .int v3), (1, .int v2), (0, .ref x0)]) dX11_readsSight_92 (Nat.le_of_ble_eq_true rfl) rfl ?_
            refine q_aload_n hC 4 dX11_readsSight_94 rfl rfl ?_
            refine q_bipush hC (v := 10) dX11_readsSight_95 rfl ?_
            refine q_cVI hC hnt (stk := []) (as := [.int 10]) sX11_isWord (ci := 11) (by decide) rfl nX11_isWord rfl w_1236 w_1238 w_1239 w_830 w_1237 (Nat.le_of_ble_eq_true rfl) dX11_readsSight_97 rfl (fun v13 => ?_)
            refine q_istoreA hC (loc' := [(5, .int v13), (4, .int v12), (3, .int 0), (2, .int v3), (1, .int v2), (0, .ref x0)]) dX11_readsSight_100 (Nat.le_of_ble_eq_true rfl) rfl ?_
            refine q_iload hC 0 dX11_readsSight_102 rfl ?_
            refine q_if_eq hC 111 dX11_readsSight_104 rfl ?_ ?_
            · exact c_sub [5, 4, 3, 2, 1, 0] rfl (hJ 1 [.ref x0, .int v2, .int v3, .int 0, .int v12, .int v13])
            · refine q_aload_n hC 5 dX11_readsSight_107 rfl rfl ?_
              refine q_cVV hC hnt (stk := []) (as := []) sX11_goOn (ci := 11) (by decide) rfl nX11_goOn rfl w_1223 w_1225 w_1226 w_830 w_1224 (Nat.le_of_ble_eq_true rfl) dX11_readsSight_108 rfl ?_
              exact c_sub [5, 4, 3, 2, 1, 0] rfl (hJ 1 [.ref x0, .int v2, .int v3, .int 0, .int v12, .int v13])
          · refine q_iconst hC dX11_readsSight_72 rfl ?_
            refine q_goto hC 77 dX11_readsSight_73 rfl ?_
            refine q_istore_nA hC (loc' := [(3, .int 1), (2, .int v3), (1, .int v2), (0, .ref x0)]) dX11_readsSight_77 rfl (Nat.le_of_ble_eq_true rfl) rfl ?_
            refine q_aload_n hC 3 dX11_readsSight_78 rfl rfl ?_
            refine q_cVV hC hnt (stk := []) (as := []) sX11_goOn (ci := 11) (by decide) rfl nX11_goOn rfl w_1223 w_1225 w_1226 w_830 w_1224 (Nat.le_of_ble_eq_true rfl) dX11_readsSight_79 rfl ?_
            refine q_aload_n hC 3 dX11_readsSight_82 rfl rfl ?_
            refine q_sipush hC (v := (-9999)) dX11_readsSight_83 rfl ?_
            refine q_sipush hC (v := 9999) dX11_readsSight_86 rfl ?_
            refine q_cVI hC hnt (stk := []) (as := [.int (-9999), .int 9999]) sX11_signed (ci := 11) (by decide) rfl nX11_signed rfl w_1245 w_1247 w_1248 w_830 w_1246 (Nat.le_of_ble_eq_true rfl) dX11_readsSight_89 rfl (fun v14 => ?_)
            refine q_istoreA hC (loc' := [(4, .int v14), (3, .int 1), (2, .int v3), (1, .int v2), (0, .ref x0)]) dX11_readsSight_92 (Nat.le_of_ble_eq_true rfl) rfl ?_
            refine q_aload_n hC 4 dX11_readsSight_94 rfl rfl ?_
            refine q_bipush hC (v := 10) dX11_readsSight_95 rfl ?_
            refine q_cVI hC hnt (stk := []) (as := [.int 10]) sX11_isWord (ci := 11) (by decide) rfl nX11_isWord rfl w_1236 w_1238 w_1239 w_830 w_1237 (Nat.le_of_ble_eq_true rfl) dX11_readsSight_97 rfl (fun v15 => ?_)
            refine q_istoreA hC (loc' := [(5, .int v15), (4, .int v14), (3, .int 1), (2, .int v3), (1, .int v2), (0, .ref x0)]) dX11_readsSight_100 (Nat.le_of_ble_eq_true rfl) rfl ?_
            refine q_iload hC 0 dX11_readsSight_102 rfl ?_
            refine q_if_eq hC 111 dX11_readsSight_104 rfl ?_ ?_
            · exact c_sub [5, 4, 3, 2, 1, 0] rfl (hJ 1 [.ref x0, .int v2, .int v3, .int 1, .int v14, .int v15])
            · refine q_aload_n hC 5 dX11_readsSight_107 rfl rfl ?_
              refine q_cVV hC hnt (stk := []) (as := []) sX11_goOn (ci := 11) (by decide) rfl nX11_goOn rfl w_1223 w_1225 w_1226 w_830 w_1224 (Nat.le_of_ble_eq_true rfl) dX11_readsSight_108 rfl ?_
              exact c_sub [5, 4, 3, 2, 1, 0] rfl (hJ 1 [.ref x0, .int v2, .int v3, .int 1, .int v14, .int v15])
        · refine q_iconst hC dX11_readsSight_54 rfl ?_
          refine q_goto hC 59 dX11_readsSight_55 rfl ?_
          refine q_iconst hC dX11_readsSight_59 rfl ?_
          refine q_cVV hC hnt (stk := []) (as := [.int 1, .int 1]) sX11_needs (ci := 11) (by decide) rfl nX11_needs rfl w_1215 w_1217 w_1218 w_830 w_1216 (Nat.le_of_ble_eq_true rfl) dX11_readsSight_60 rfl ?_
          refine q_aload_n hC 2 dX11_readsSight_63 rfl rfl ?_
          refine q_bipush hC (v := 9) dX11_readsSight_64 rfl ?_
          refine q_cVI hC hnt (stk := []) (as := [.int 9]) sX11_isWord (ci := 11) (by decide) rfl nX11_isWord rfl w_1236 w_1238 w_1239 w_830 w_1237 (Nat.le_of_ble_eq_true rfl) dX11_readsSight_66 rfl (fun v16 => ?_)
          refine q_if_eq hC 76 dX11_readsSight_69 rfl ?_ ?_
          · refine q_iconst hC dX11_readsSight_76 rfl ?_
            refine q_istore_nA hC (loc' := [(3, .int 0), (2, .int v3), (1, .int v2), (0, .ref x0)]) dX11_readsSight_77 rfl (Nat.le_of_ble_eq_true rfl) rfl ?_
            refine q_aload_n hC 3 dX11_readsSight_78 rfl rfl ?_
            refine q_cVV hC hnt (stk := []) (as := []) sX11_goOn (ci := 11) (by decide) rfl nX11_goOn rfl w_1223 w_1225 w_1226 w_830 w_1224 (Nat.le_of_ble_eq_true rfl) dX11_readsSight_79 rfl ?_
            refine q_aload_n hC 3 dX11_readsSight_82 rfl rfl ?_
            refine q_sipush hC (v := (-9999)) dX11_readsSight_83 rfl ?_
            refine q_sipush hC (v := 9999) dX11_readsSight_86 rfl ?_
            refine q_cVI hC hnt (stk := []) (as := [.int (-9999), .int 9999]) sX11_signed (ci := 11) (by decide) rfl nX11_signed rfl w_1245 w_1247 w_1248 w_830 w_1246 (Nat.le_of_ble_eq_true rfl) dX11_readsSight_89 rfl (fun v17 => ?_)
            refine q_istoreA hC (loc' := [(4, .int v17), (3, .int 0), (2, .int v3), (1, .int v2), (0, .ref x0)]) dX11_readsSight_92 (Nat.le_of_ble_eq_true rfl) rfl ?_
            refine q_aload_n hC 4 dX11_readsSight_94 rfl rfl ?_
            refine q_bipush hC (v := 10) dX11_readsSight_95 rfl ?_
            refine q_cVI hC hnt (stk := []) (as := [.int 10]) sX11_isWord (ci := 11) (by decide) rfl nX11_isWord rfl w_1236 w_1238 w_1239 w_830 w_1237 (Nat.le_of_ble_eq_true rfl) dX11_readsSight_97 rfl (fun v18 => ?_)
            refine q_istoreA hC (loc' := [(5, .int v18), (4, .int v17), (3, .int 0), (2, .int v3), (1, .int v2), (0, .ref x0)]) dX11_readsSight_100 (Nat.le_of_ble_eq_true rfl) rfl ?_
            refine q_iload hC 0 dX11_readsSight_102 rfl ?_
            refine q_if_eq hC 111 dX11_readsSight_104 rfl ?_ ?_
            · exact c_sub [5, 4, 3, 2, 1, 0] rfl (hJ 1 [.ref x0, .int v2, .int v3, .int 0, .int v17, .int v18])
            · refine q_aload_n hC 5 dX11_readsSight_107 rfl rfl ?_
              refine q_cVV hC hnt (stk := []) (as := []) sX11_goOn (ci := 11) (by decide) rfl nX11_goOn rfl w_1223 w_1225 w_1226 w_830 w_1224 (Nat.le_of_ble_eq_true rfl) dX11_readsSight_108 rfl ?_
              exact c_sub [5, 4, 3, 2, 1, 0] rfl (hJ 1 [.ref x0, .int v2, .int v3, .int 0, .int v17, .int v18])
          · refine q_iconst hC dX11_readsSight_72 rfl ?_
            refine q_goto hC 77 dX11_readsSight_73 rfl ?_
            refine q_istore_nA hC (loc' := [(3, .int 1), (2, .int v3), (1, .int v2), (0, .ref x0)]) dX11_readsSight_77 rfl (Nat.le_of_ble_eq_true rfl) rfl ?_
            refine q_aload_n hC 3 dX11_readsSight_78 rfl rfl ?_
            refine q_cVV hC hnt (stk := []) (as := []) sX11_goOn (ci := 11) (by decide) rfl nX11_goOn rfl w_1223 w_1225 w_1226 w_830 w_1224 (Nat.le_of_ble_eq_true rfl) dX11_readsSight_79 rfl ?_
            refine q_aload_n hC 3 dX11_readsSight_82 rfl rfl ?_
            refine q_sipush hC (v := (-9999)) dX11_readsSight_83 rfl ?_
            refine q_sipush hC (v := 9999) dX11_readsSight_86 rfl ?_
            refine q_cVI hC hnt (stk := []) (as := [.int (-9999), .int 9999]) sX11_signed (ci := 11) (by decide) rfl nX11_signed rfl w_1245 w_1247 w_1248 w_830 w_1246 (Nat.le_of_ble_eq_true rfl) dX11_readsSight_89 rfl (fun v19 => ?_)
            refine q_istoreA hC (loc' := [(4, .int v19), (3, .int 1), (2, .int v3), (1, .int v2), (0, .ref x0)]) dX11_readsSight_92 (Nat.le_of_ble_eq_true rfl) rfl ?_
            refine q_aload_n hC 4 dX11_readsSight_94 rfl rfl ?_
            refine q_bipush hC (v := 10) dX11_readsSight_95 rfl ?_
            refine q_cVI hC hnt (stk := []) (as := [.int 10]) sX11_isWord (ci := 11) (by decide) rfl nX11_isWord rfl w_1236 w_1238 w_1239 w_830 w_1237 (Nat.le_of_ble_eq_true rfl) dX11_readsSight_97 rfl (fun v20 => ?_)
            refine q_istoreA hC (loc' := [(5, .int v20), (4, .int v19), (3, .int 1), (2, .int v3), (1, .int v2), (0, .ref x0)]) dX11_readsSight_100 (Nat.le_of_ble_eq_true rfl) rfl ?_
            refine q_iload hC 0 dX11_readsSight_102 rfl ?_
            refine q_if_eq hC 111 dX11_readsSight_104 rfl ?_ ?_
            · exact c_sub [5, 4, 3, 2, 1, 0] rfl (hJ 1 [.ref x0, .int v2, .int v3, .int 1, .int v19, .int v20])
            · refine q_aload_n hC 5 dX11_readsSight_107 rfl rfl ?_
              refine q_cVV hC hnt (stk := []) (as := []) sX11_goOn (ci := 11) (by decide) rfl nX11_goOn rfl w_1223 w_1225 w_1226 w_830 w_1224 (Nat.le_of_ble_eq_true rfl) dX11_readsSight_108 rfl ?_
              exact c_sub [5, 4, 3, 2, 1, 0] rfl (hJ 1 [.ref x0, .int v2, .int v3, .int 1, .int v19, .int v20])
    · refine q_iconst hC dX11_readsSight_10 rfl ?_
      refine q_goto hC 15 dX11_readsSight_11 rfl ?_
      refine q_iconst hC dX11_readsSight_15 rfl ?_
      refine q_cVV hC hnt (stk := []) (as := [.int 1, .int 5]) sX11_needs (ci := 11) (by decide) rfl nX11_needs rfl w_1215 w_1217 w_1218 w_830 w_1216 (Nat.le_of_ble_eq_true rfl) dX11_readsSight_16 rfl ?_
      refine q_aload_n hC 0 dX11_readsSight_19 rfl rfl ?_
      refine q_cVV hC hnt (stk := []) (as := []) sX11_goOn (ci := 11) (by decide) rfl nX11_goOn rfl w_1223 w_1225 w_1226 w_830 w_1224 (Nat.le_of_ble_eq_true rfl) dX11_readsSight_20 rfl ?_
      refine q_aload_n hC 0 dX11_readsSight_23 rfl rfl ?_
      refine q_iconst hC dX11_readsSight_24 rfl ?_
      refine q_cVI hC hnt (stk := []) (as := [.int (-1)]) sX11_markHere (ci := 11) (by decide) rfl nX11_markHere rfl w_1249 w_1251 w_1252 w_830 w_1250 (Nat.le_of_ble_eq_true rfl) dX11_readsSight_25 rfl (fun v21 => ?_)
      refine q_istore_nA hC (loc' := [(1, .int v21), (0, .ref x0)]) dX11_readsSight_28 rfl (Nat.le_of_ble_eq_true rfl) rfl ?_
      refine q_aload_n hC 1 dX11_readsSight_29 rfl rfl ?_
      refine q_iload_n hC 0 dX11_readsSight_30 rfl rfl ?_
      refine q_cVI hC hnt (stk := []) (as := [.int v21]) sX11_markHere (ci := 11) (by decide) rfl nX11_markHere rfl w_1249 w_1251 w_1252 w_830 w_1250 (Nat.le_of_ble_eq_true rfl) dX11_readsSight_31 rfl (fun v22 => ?_)
      refine q_istore_nA hC (loc' := [(2, .int v22), (1, .int v21), (0, .ref x0)]) dX11_readsSight_34 rfl (Nat.le_of_ble_eq_true rfl) rfl ?_
      refine q_aload_n hC 2 dX11_readsSight_35 rfl rfl ?_
      refine q_aload_n hC 2 dX11_readsSight_36 rfl rfl ?_
      refine q_bipush hC (v := 8) dX11_readsSight_37 rfl ?_
      refine q_cVI hC hnt (stk := [.ref x0]) (as := [.int 8]) sX11_isWord (ci := 11) (by decide) rfl nX11_isWord rfl w_1236 w_1238 w_1239 w_830 w_1237 (Nat.le_of_ble_eq_true rfl) dX11_readsSight_39 rfl (fun v23 => ?_)
      refine q_if_ne hC 54 dX11_readsSight_42 rfl ?_ ?_
      · refine q_iconst hC dX11_readsSight_54 rfl ?_
        refine q_goto hC 59 dX11_readsSight_55 rfl ?_
        refine q_iconst hC dX11_readsSight_59 rfl ?_
        refine q_cVV hC hnt (stk := []) (as := [.int 1, .int 1]) sX11_needs (ci := 11) (by decide) rfl nX11_needs rfl w_1215 w_1217 w_1218 w_830 w_1216 (Nat.le_of_ble_eq_true rfl) dX11_readsSight_60 rfl ?_
        refine q_aload_n hC 2 dX11_readsSight_63 rfl rfl ?_
        refine q_bipush hC (v := 9) dX11_readsSight_64 rfl ?_
        refine q_cVI hC hnt (stk := []) (as := [.int 9]) sX11_isWord (ci := 11) (by decide) rfl nX11_isWord rfl w_1236 w_1238 w_1239 w_830 w_1237 (Nat.le_of_ble_eq_true rfl) dX11_readsSight_66 rfl (fun v24 => ?_)
        refine q_if_eq hC 76 dX11_readsSight_69 rfl ?_ ?_
        · refine q_iconst hC dX11_readsSight_76 rfl ?_
          refine q_istore_nA hC (loc' := [(3, .int 0), (2, .int v22), (1, .int v21), (0, .ref x0)]) dX11_readsSight_77 rfl (Nat.le_of_ble_eq_true rfl) rfl ?_
          refine q_aload_n hC 3 dX11_readsSight_78 rfl rfl ?_
          refine q_cVV hC hnt (stk := []) (as := []) sX11_goOn (ci := 11) (by decide) rfl nX11_goOn rfl w_1223 w_1225 w_1226 w_830 w_1224 (Nat.le_of_ble_eq_true rfl) dX11_readsSight_79 rfl ?_
          refine q_aload_n hC 3 dX11_readsSight_82 rfl rfl ?_
          refine q_sipush hC (v := (-9999)) dX11_readsSight_83 rfl ?_
          refine q_sipush hC (v := 9999) dX11_readsSight_86 rfl ?_
          refine q_cVI hC hnt (stk := []) (as := [.int (-9999), .int 9999]) sX11_signed (ci := 11) (by decide) rfl nX11_signed rfl w_1245 w_1247 w_1248 w_830 w_1246 (Nat.le_of_ble_eq_true rfl) dX11_readsSight_89 rfl (fun v25 => ?_)
          refine q_istoreA hC (loc' := [(4, .int v25), (3, .int 0), (2, .int v22), (1, .int v21), (0, .ref x0)]) dX11_readsSight_92 (Nat.le_of_ble_eq_true rfl) rfl ?_
          refine q_aload_n hC 4 dX11_readsSight_94 rfl rfl ?_
          refine q_bipush hC (v := 10) dX11_readsSight_95 rfl ?_
          refine q_cVI hC hnt (stk := []) (as := [.int 10]) sX11_isWord (ci := 11) (by decide) rfl nX11_isWord rfl w_1236 w_1238 w_1239 w_830 w_1237 (Nat.le_of_ble_eq_true rfl) dX11_readsSight_97 rfl (fun v26 => ?_)
          refine q_istoreA hC (loc' := [(5, .int v26), (4, .int v25), (3, .int 0), (2, .int v22), (1, .int v21), (0, .ref x0)]) dX11_readsSight_100 (Nat.le_of_ble_eq_true rfl) rfl ?_
          refine q_iload hC 0 dX11_readsSight_102 rfl ?_
          refine q_if_eq hC 111 dX11_readsSight_104 rfl ?_ ?_
          · exact c_sub [5, 4, 3, 2, 1, 0] rfl (hJ 1 [.ref x0, .int v21, .int v22, .int 0, .int v25, .int v26])
          · refine q_aload_n hC 5 dX11_readsSight_107 rfl rfl ?_
            refine q_cVV hC hnt (stk := []) (as := []) sX11_goOn (ci := 11) (by decide) rfl nX11_goOn rfl w_1223 w_1225 w_1226 w_830 w_1224 (Nat.le_of_ble_eq_true rfl) dX11_readsSight_108 rfl ?_
            exact c_sub [5, 4, 3, 2, 1, 0] rfl (hJ 1 [.ref x0, .int v21, .int v22, .int 0, .int v25, .int v26])
        · refine q_iconst hC dX11_readsSight_72 rfl ?_
          refine q_goto hC 77 dX11_readsSight_73 rfl ?_
          refine q_istore_nA hC (loc' := [(3, .int 1), (2, .int v22), (1, .int v21), (0, .ref x0)]) dX11_readsSight_77 rfl (Nat.le_of_ble_eq_true rfl) rfl ?_
          refine q_aload_n hC 3 dX11_readsSight_78 rfl rfl ?_
          refine q_cVV hC hnt (stk := []) (as := []) sX11_goOn (ci := 11) (by decide) rfl nX11_goOn rfl w_1223 w_1225 w_1226 w_830 w_1224 (Nat.le_of_ble_eq_true rfl) dX11_readsSight_79 rfl ?_
          refine q_aload_n hC 3 dX11_readsSight_82 rfl rfl ?_
          refine q_sipush hC (v := (-9999)) dX11_readsSight_83 rfl ?_
          refine q_sipush hC (v := 9999) dX11_readsSight_86 rfl ?_
          refine q_cVI hC hnt (stk := []) (as := [.int (-9999), .int 9999]) sX11_signed (ci := 11) (by decide) rfl nX11_signed rfl w_1245 w_1247 w_1248 w_830 w_1246 (Nat.le_of_ble_eq_true rfl) dX11_readsSight_89 rfl (fun v27 => ?_)
          refine q_istoreA hC (loc' := [(4, .int v27), (3, .int 1), (2, .int v22), (1, .int v21), (0, .ref x0)]) dX11_readsSight_92 (Nat.le_of_ble_eq_true rfl) rfl ?_
          refine q_aload_n hC 4 dX11_readsSight_94 rfl rfl ?_
          refine q_bipush hC (v := 10) dX11_readsSight_95 rfl ?_
          refine q_cVI hC hnt (stk := []) (as := [.int 10]) sX11_isWord (ci := 11) (by decide) rfl nX11_isWord rfl w_1236 w_1238 w_1239 w_830 w_1237 (Nat.le_of_ble_eq_true rfl) dX11_readsSight_97 rfl (fun v28 => ?_)
          refine q_istoreA hC (loc' := [(5, .int v28), (4, .int v27), (3, .int 1), (2, .int v22), (1, .int v21), (0, .ref x0)]) dX11_readsSight_100 (Nat.le_of_ble_eq_true rfl) rfl ?_
          refine q_iload hC 0 dX11_readsSight_102 rfl ?_
          refine q_if_eq hC 111 dX11_readsSight_104 rfl ?_ ?_
          · exact c_sub [5, 4, 3, 2, 1, 0] rfl (hJ 1 [.ref x0, .int v21, .int v22, .int 1, .int v27, .int v28])
          · refine q_aload_n hC 5 dX11_readsSight_107 rfl rfl ?_
            refine q_cVV hC hnt (stk := []) (as := []) sX11_goOn (ci := 11) (by decide) rfl nX11_goOn rfl w_1223 w_1225 w_1226 w_830 w_1224 (Nat.le_of_ble_eq_true rfl) dX11_readsSight_108 rfl ?_
            exact c_sub [5, 4, 3, 2, 1, 0] rfl (hJ 1 [.ref x0, .int v21, .int v22, .int 1, .int v27, .int v28])
      · refine q_aload_n hC 2 dX11_readsSight_45 rfl rfl ?_
        refine q_bipush hC (v := 9) dX11_readsSight_46 rfl ?_
        refine q_cVI hC hnt (stk := [.ref x0]) (as := [.int 9]) sX11_isWord (ci := 11) (by decide) rfl nX11_isWord rfl w_1236 w_1238 w_1239 w_830 w_1237 (Nat.le_of_ble_eq_true rfl) dX11_readsSight_48 rfl (fun v29 => ?_)
        refine q_if_eq hC 58 dX11_readsSight_51 rfl ?_ ?_
        · refine q_iconst hC dX11_readsSight_58 rfl ?_
          refine q_iconst hC dX11_readsSight_59 rfl ?_
          refine q_cVV hC hnt (stk := []) (as := [.int 0, .int 1]) sX11_needs (ci := 11) (by decide) rfl nX11_needs rfl w_1215 w_1217 w_1218 w_830 w_1216 (Nat.le_of_ble_eq_true rfl) dX11_readsSight_60 rfl ?_
          refine q_aload_n hC 2 dX11_readsSight_63 rfl rfl ?_
          refine q_bipush hC (v := 9) dX11_readsSight_64 rfl ?_
          refine q_cVI hC hnt (stk := []) (as := [.int 9]) sX11_isWord (ci := 11) (by decide) rfl nX11_isWord rfl w_1236 w_1238 w_1239 w_830 w_1237 (Nat.le_of_ble_eq_true rfl) dX11_readsSight_66 rfl (fun v30 => ?_)
          refine q_if_eq hC 76 dX11_readsSight_69 rfl ?_ ?_
          · refine q_iconst hC dX11_readsSight_76 rfl ?_
            refine q_istore_nA hC (loc' := [(3, .int 0), (2, .int v22), (1, .int v21), (0, .ref x0)]) dX11_readsSight_77 rfl (Nat.le_of_ble_eq_true rfl) rfl ?_
            refine q_aload_n hC 3 dX11_readsSight_78 rfl rfl ?_
            refine q_cVV hC hnt (stk := []) (as := []) sX11_goOn (ci := 11) (by decide) rfl nX11_goOn rfl w_1223 w_1225 w_1226 w_830 w_1224 (Nat.le_of_ble_eq_true rfl) dX11_readsSight_79 rfl ?_
            refine q_aload_n hC 3 dX11_readsSight_82 rfl rfl ?_
            refine q_sipush hC (v := (-9999)) dX11_readsSight_83 rfl ?_
            refine q_sipush hC (v := 9999) dX11_readsSight_86 rfl ?_
            refine q_cVI hC hnt (stk := []) (as := [.int (-9999), .int 9999]) sX11_signed (ci := 11) (by decide) rfl nX11_signed rfl w_1245 w_1247 w_1248 w_830 w_1246 (Nat.le_of_ble_eq_true rfl) dX11_readsSight_89 rfl (fun v31 => ?_)
            refine q_istoreA hC (loc' := [(4, .int v31), (3, .int 0), (2, .int v22), (1, .int v21), (0, .ref x0)]) dX11_readsSight_92 (Nat.le_of_ble_eq_true rfl) rfl ?_
            refine q_aload_n hC 4 dX11_readsSight_94 rfl rfl ?_
            refine q_bipush hC (v := 10) dX11_readsSight_95 rfl ?_
            refine q_cVI hC hnt (stk := []) (as := [.int 10]) sX11_isWord (ci := 11) (by decide) rfl nX11_isWord rfl w_1236 w_1238 w_1239 w_830 w_1237 (Nat.le_of_ble_eq_true rfl) dX11_readsSight_97 rfl (fun v32 => ?_)
            refine q_istoreA hC (loc' := [(5, .int v32), (4, .int v31), (3, .int 0), (2, .int v22), (1, .int v21), (0, .ref x0)]) dX11_readsSight_100 (Nat.le_of_ble_eq_true rfl) rfl ?_
            refine q_iload hC 0 dX11_readsSight_102 rfl ?_
            refine q_if_eq hC 111 dX11_readsSight_104 rfl ?_ ?_
            · exact c_sub [5, 4, 3, 2, 1, 0] rfl (hJ 1 [.ref x0, .int v21, .int v22, .int 0, .int v31, .int v32])
            · refine q_aload_n hC 5 dX11_readsSight_107 rfl rfl ?_
              refine q_cVV hC hnt (stk := []) (as := []) sX11_goOn (ci := 11) (by decide) rfl nX11_goOn rfl w_1223 w_1225 w_1226 w_830 w_1224 (Nat.le_of_ble_eq_true rfl) dX11_readsSight_108 rfl ?_
              exact c_sub [5, 4, 3, 2, 1, 0] rfl (hJ 1 [.ref x0, .int v21, .int v22, .int 0, .int v31, .int v32])
          · refine q_iconst hC dX11_readsSight_72 rfl ?_
            refine q_goto hC 77 dX11_readsSight_73 rfl ?_
            refine q_istore_nA hC (loc' := [(3, .int 1), (2, .int v22), (1, .int v21), (0, .ref x0)]) dX11_readsSight_77 rfl (Nat.le_of_ble_eq_true rfl) rfl ?_
            refine q_aload_n hC 3 dX11_readsSight_78 rfl rfl ?_
            refine q_cVV hC hnt (stk := []) (as := []) sX11_goOn (ci := 11) (by decide) rfl nX11_goOn rfl w_1223 w_1225 w_1226 w_830 w_1224 (Nat.le_of_ble_eq_true rfl) dX11_readsSight_79 rfl ?_
            refine q_aload_n hC 3 dX11_readsSight_82 rfl rfl ?_
            refine q_sipush hC (v := (-9999)) dX11_readsSight_83 rfl ?_
            refine q_sipush hC (v := 9999) dX11_readsSight_86 rfl ?_
            refine q_cVI hC hnt (stk := []) (as := [.int (-9999), .int 9999]) sX11_signed (ci := 11) (by decide) rfl nX11_signed rfl w_1245 w_1247 w_1248 w_830 w_1246 (Nat.le_of_ble_eq_true rfl) dX11_readsSight_89 rfl (fun v33 => ?_)
            refine q_istoreA hC (loc' := [(4, .int v33), (3, .int 1), (2, .int v22), (1, .int v21), (0, .ref x0)]) dX11_readsSight_92 (Nat.le_of_ble_eq_true rfl) rfl ?_
            refine q_aload_n hC 4 dX11_readsSight_94 rfl rfl ?_
            refine q_bipush hC (v := 10) dX11_readsSight_95 rfl ?_
            refine q_cVI hC hnt (stk := []) (as := [.int 10]) sX11_isWord (ci := 11) (by decide) rfl nX11_isWord rfl w_1236 w_1238 w_1239 w_830 w_1237 (Nat.le_of_ble_eq_true rfl) dX11_readsSight_97 rfl (fun v34 => ?_)
            refine q_istoreA hC (loc' := [(5, .int v34), (4, .int v33), (3, .int 1), (2, .int v22), (1, .int v21), (0, .ref x0)]) dX11_readsSight_100 (Nat.le_of_ble_eq_true rfl) rfl ?_
            refine q_iload hC 0 dX11_readsSight_102 rfl ?_
            refine q_if_eq hC 111 dX11_readsSight_104 rfl ?_ ?_
            · exact c_sub [5, 4, 3, 2, 1, 0] rfl (hJ 1 [.ref x0, .int v21, .int v22, .int 1, .int v33, .int v34])
            · refine q_aload_n hC 5 dX11_readsSight_107 rfl rfl ?_
              refine q_cVV hC hnt (stk := []) (as := []) sX11_goOn (ci := 11) (by decide) rfl nX11_goOn rfl w_1223 w_1225 w_1226 w_830 w_1224 (Nat.le_of_ble_eq_true rfl) dX11_readsSight_108 rfl ?_
              exact c_sub [5, 4, 3, 2, 1, 0] rfl (hJ 1 [.ref x0, .int v21, .int v22, .int 1, .int v33, .int v34])
        · refine q_iconst hC dX11_readsSight_54 rfl ?_
          refine q_goto hC 59 dX11_readsSight_55 rfl ?_
          refine q_iconst hC dX11_readsSight_59 rfl ?_
          refine q_cVV hC hnt (stk := []) (as := [.int 1, .int 1]) sX11_needs (ci := 11) (by decide) rfl nX11_needs rfl w_1215 w_1217 w_1218 w_830 w_1216 (Nat.le_of_ble_eq_true rfl) dX11_readsSight_60 rfl ?_
          refine q_aload_n hC 2 dX11_readsSight_63 rfl rfl ?_
          refine q_bipush hC (v := 9) dX11_readsSight_64 rfl ?_
          refine q_cVI hC hnt (stk := []) (as := [.int 9]) sX11_isWord (ci := 11) (by decide) rfl nX11_isWord rfl w_1236 w_1238 w_1239 w_830 w_1237 (Nat.le_of_ble_eq_true rfl) dX11_readsSight_66 rfl (fun v35 => ?_)
          refine q_if_eq hC 76 dX11_readsSight_69 rfl ?_ ?_
          · refine q_iconst hC dX11_readsSight_76 rfl ?_
            refine q_istore_nA hC (loc' := [(3, .int 0), (2, .int v22), (1, .int v21), (0, .ref x0)]) dX11_readsSight_77 rfl (Nat.le_of_ble_eq_true rfl) rfl ?_
            refine q_aload_n hC 3 dX11_readsSight_78 rfl rfl ?_
            refine q_cVV hC hnt (stk := []) (as := []) sX11_goOn (ci := 11) (by decide) rfl nX11_goOn rfl w_1223 w_1225 w_1226 w_830 w_1224 (Nat.le_of_ble_eq_true rfl) dX11_readsSight_79 rfl ?_
            refine q_aload_n hC 3 dX11_readsSight_82 rfl rfl ?_
            refine q_sipush hC (v := (-9999)) dX11_readsSight_83 rfl ?_
            refine q_sipush hC (v := 9999) dX11_readsSight_86 rfl ?_
            refine q_cVI hC hnt (stk := []) (as := [.int (-9999), .int 9999]) sX11_signed (ci := 11) (by decide) rfl nX11_signed rfl w_1245 w_1247 w_1248 w_830 w_1246 (Nat.le_of_ble_eq_true rfl) dX11_readsSight_89 rfl (fun v36 => ?_)
            refine q_istoreA hC (loc' := [(4, .int v36), (3, .int 0), (2, .int v22), (1, .int v21), (0, .ref x0)]) dX11_readsSight_92 (Nat.le_of_ble_eq_true rfl) rfl ?_
            refine q_aload_n hC 4 dX11_readsSight_94 rfl rfl ?_
            refine q_bipush hC (v := 10) dX11_readsSight_95 rfl ?_
            refine q_cVI hC hnt (stk := []) (as := [.int 10]) sX11_isWord (ci := 11) (by decide) rfl nX11_isWord rfl w_1236 w_1238 w_1239 w_830 w_1237 (Nat.le_of_ble_eq_true rfl) dX11_readsSight_97 rfl (fun v37 => ?_)
            refine q_istoreA hC (loc' := [(5, .int v37), (4, .int v36), (3, .int 0), (2, .int v22), (1, .int v21), (0, .ref x0)]) dX11_readsSight_100 (Nat.le_of_ble_eq_true rfl) rfl ?_
            refine q_iload hC 0 dX11_readsSight_102 rfl ?_
            refine q_if_eq hC 111 dX11_readsSight_104 rfl ?_ ?_
            · exact c_sub [5, 4, 3, 2, 1, 0] rfl (hJ 1 [.ref x0, .int v21, .int v22, .int 0, .int v36, .int v37])
            · refine q_aload_n hC 5 dX11_readsSight_107 rfl rfl ?_
              refine q_cVV hC hnt (stk := []) (as := []) sX11_goOn (ci := 11) (by decide) rfl nX11_goOn rfl w_1223 w_1225 w_1226 w_830 w_1224 (Nat.le_of_ble_eq_true rfl) dX11_readsSight_108 rfl ?_
              exact c_sub [5, 4, 3, 2, 1, 0] rfl (hJ 1 [.ref x0, .int v21, .int v22, .int 0, .int v36, .int v37])
          · refine q_iconst hC dX11_readsSight_72 rfl ?_
            refine q_goto hC 77 dX11_readsSight_73 rfl ?_
            refine q_istore_nA hC (loc' := [(3, .int 1), (2, .int v22), (1, .int v21), (0, .ref x0)]) dX11_readsSight_77 rfl (Nat.le_of_ble_eq_true rfl) rfl ?_
            refine q_aload_n hC 3 dX11_readsSight_78 rfl rfl ?_
            refine q_cVV hC hnt (stk := []) (as := []) sX11_goOn (ci := 11) (by decide) rfl nX11_goOn rfl w_1223 w_1225 w_1226 w_830 w_1224 (Nat.le_of_ble_eq_true rfl) dX11_readsSight_79 rfl ?_
            refine q_aload_n hC 3 dX11_readsSight_82 rfl rfl ?_
            refine q_sipush hC (v := (-9999)) dX11_readsSight_83 rfl ?_
            refine q_sipush hC (v := 9999) dX11_readsSight_86 rfl ?_
            refine q_cVI hC hnt (stk := []) (as := [.int (-9999), .int 9999]) sX11_signed (ci := 11) (by decide) rfl nX11_signed rfl w_1245 w_1247 w_1248 w_830 w_1246 (Nat.le_of_ble_eq_true rfl) dX11_readsSight_89 rfl (fun v38 => ?_)
            refine q_istoreA hC (loc' := [(4, .int v38), (3, .int 1), (2, .int v22), (1, .int v21), (0, .ref x0)]) dX11_readsSight_92 (Nat.le_of_ble_eq_true rfl) rfl ?_
            refine q_aload_n hC 4 dX11_readsSight_94 rfl rfl ?_
            refine q_bipush hC (v := 10) dX11_readsSight_95 rfl ?_
            refine q_cVI hC hnt (stk := []) (as := [.int 10]) sX11_isWord (ci := 11) (by decide) rfl nX11_isWord rfl w_1236 w_1238 w_1239 w_830 w_1237 (Nat.le_of_ble_eq_true rfl) dX11_readsSight_97 rfl (fun v39 => ?_)
            refine q_istoreA hC (loc' := [(5, .int v39), (4, .int v38), (3, .int 1), (2, .int v22), (1, .int v21), (0, .ref x0)]) dX11_readsSight_100 (Nat.le_of_ble_eq_true rfl) rfl ?_
            refine q_iload hC 0 dX11_readsSight_102 rfl ?_
            refine q_if_eq hC 111 dX11_readsSight_104 rfl ?_ ?_
            · exact c_sub [5, 4, 3, 2, 1, 0] rfl (hJ 1 [.ref x0, .int v21, .int v22, .int 1, .int v38, .int v39])
            · refine q_aload_n hC 5 dX11_readsSight_107 rfl rfl ?_
              refine q_cVV hC hnt (stk := []) (as := []) sX11_goOn (ci := 11) (by decide) rfl nX11_goOn rfl w_1223 w_1225 w_1226 w_830 w_1224 (Nat.le_of_ble_eq_true rfl) dX11_readsSight_108 rfl ?_
              exact c_sub [5, 4, 3, 2, 1, 0] rfl (hJ 1 [.ref x0, .int v21, .int v22, .int 1, .int v38, .int v39])
  · exact c_no
theorem pX11_readsSight_1 {Γ : CT} (hC : Ctx Γ "SpiritWallModel" cX11_readsSight 8 none rmX11_readsSight) (hnt : NT Γ) (J : JT) (hJ : ∀ L a, Cor Γ 8 (lX11_readsSight L a).1 (lX11_readsSight L a).2.1 (lX11_readsSight L a).2.2.1 (lX11_readsSight L a).2.2.2.1 (lX11_readsSight L a).2.2.2.2 (J L a)) (a : List Value) : Cor Γ 8 0 0 111 (List.zip [0, 1, 2, 3, 4, 5] a) [] (bX11_readsSight_1 J a) := by
  unfold bX11_readsSight_1
  split
  · rename_i x0 x1 x2 x3 x4 x5
    refine c_sub [0, 1, 2, 3, 4, 5] rfl (loc' := [(0, .ref x0), (1, .int x1), (2, .int x2), (3, .int x3), (4, .int x4), (5, .int x5)]) ?_
    refine q_iload hC 5 dX11_readsSight_111 rfl ?_
    refine q_if_eq hC 127 dX11_readsSight_113 rfl ?_ ?_
    · refine q_bipush hC (v := 20) dX11_readsSight_127 rfl ?_
      refine q_istoreA hC (loc' := [(6, .int 20), (0, .ref x0), (1, .int x1), (2, .int x2), (3, .int x3), (4, .int x4), (5, .int x5)]) dX11_readsSight_129 (Nat.le_of_ble_eq_true rfl) rfl ?_
      refine q_aload_n hC 1 dX11_readsSight_131 rfl rfl ?_
      refine q_cVI hC hnt (stk := []) (as := []) sX11_fine (ci := 11) (by decide) rfl nX11_fine rfl w_1207 w_1209 w_1210 w_830 w_1208 (Nat.le_of_ble_eq_true rfl) dX11_readsSight_132 rfl (fun v1 => ?_)
      refine q_if_ne hC 139 dX11_readsSight_135 rfl ?_ ?_
      · refine q_aload_n hC 1 dX11_readsSight_139 rfl rfl ?_
        refine q_iload_n hC 2 dX11_readsSight_140 rfl rfl ?_
        refine q_iload_n hC 3 dX11_readsSight_141 rfl rfl ?_
        refine q_iload_n hC 4 dX11_readsSight_142 rfl rfl ?_
        refine q_iload hC 5 dX11_readsSight_143 rfl ?_
        refine q_iload hC 0 dX11_readsSight_145 rfl ?_
        refine q_cVI hC hnt (stk := []) (as := [.int x1, .int x2, .int x3, .int x4, .int 20]) sX11_addsSight (ci := 11) (by decide) rfl nX11_addsSight rfl w_1151 w_1153 w_1154 w_830 w_1152 (Nat.le_of_ble_eq_true rfl) dX11_readsSight_147 rfl (fun v2 => ?_)
        refine q_istoreA hC (loc' := [(7, .int v2), (6, .int 20), (0, .ref x0), (1, .int x1), (2, .int x2), (3, .int x3), (4, .int x4), (5, .int x5)]) dX11_readsSight_150 (Nat.le_of_ble_eq_true rfl) rfl ?_
        exact q_vret hC dX11_readsSight_152 (Nat.le_of_ble_eq_true rfl) (Nat.le_of_ble_eq_true rfl)
      · exact q_vret hC dX11_readsSight_138 (Nat.le_of_ble_eq_true rfl) (Nat.le_of_ble_eq_true rfl)
    · refine q_aload_n hC 0 dX11_readsSight_116 rfl rfl ?_
      refine q_bipush hC (v := (-40)) dX11_readsSight_117 rfl ?_
      refine q_bipush hC (v := 60) dX11_readsSight_119 rfl ?_
      refine q_cVI hC hnt (stk := []) (as := [.int (-40), .int 60]) sX11_signed (ci := 11) (by decide) rfl nX11_signed rfl w_1245 w_1247 w_1248 w_830 w_1246 (Nat.le_of_ble_eq_true rfl) dX11_readsSight_121 rfl (fun v3 => ?_)
      refine q_goto hC 129 dX11_readsSight_124 rfl ?_
      refine q_istoreA hC (loc' := [(6, .int v3), (0, .ref x0), (1, .int x1), (2, .int x2), (3, .int x3), (4, .int x4), (5, .int x5)]) dX11_readsSight_129 (Nat.le_of_ble_eq_true rfl) rfl ?_
      refine q_aload_n hC 1 dX11_readsSight_131 rfl rfl ?_
      refine q_cVI hC hnt (stk := []) (as := []) sX11_fine (ci := 11) (by decide) rfl nX11_fine rfl w_1207 w_1209 w_1210 w_830 w_1208 (Nat.le_of_ble_eq_true rfl) dX11_readsSight_132 rfl (fun v4 => ?_)
      refine q_if_ne hC 139 dX11_readsSight_135 rfl ?_ ?_
      · refine q_aload_n hC 1 dX11_readsSight_139 rfl rfl ?_
        refine q_iload_n hC 2 dX11_readsSight_140 rfl rfl ?_
        refine q_iload_n hC 3 dX11_readsSight_141 rfl rfl ?_
        refine q_iload_n hC 4 dX11_readsSight_142 rfl rfl ?_
        refine q_iload hC 5 dX11_readsSight_143 rfl ?_
        refine q_iload hC 0 dX11_readsSight_145 rfl ?_
        refine q_cVI hC hnt (stk := []) (as := [.int x1, .int x2, .int x3, .int x4, .int v3]) sX11_addsSight (ci := 11) (by decide) rfl nX11_addsSight rfl w_1151 w_1153 w_1154 w_830 w_1152 (Nat.le_of_ble_eq_true rfl) dX11_readsSight_147 rfl (fun v5 => ?_)
        refine q_istoreA hC (loc' := [(7, .int v5), (6, .int v3), (0, .ref x0), (1, .int x1), (2, .int x2), (3, .int x3), (4, .int x4), (5, .int x5)]) dX11_readsSight_150 (Nat.le_of_ble_eq_true rfl) rfl ?_
        exact q_vret hC dX11_readsSight_152 (Nat.le_of_ble_eq_true rfl) (Nat.le_of_ble_eq_true rfl)
      · exact q_vret hC dX11_readsSight_138 (Nat.le_of_ble_eq_true rfl) (Nat.le_of_ble_eq_true rfl)
  · exact c_no
theorem sX11_readsSight : Snd yX11_readsSight (.code yX11_readsSight cX11_readsSight 8 none) rmX11_readsSight SX11_readsSight := by
  refine Snd.of lX11_readsSight (by decide +kernel) (fun _ => rfl) ?_
  intro Γ hC hnt hnm J hJ L a
  match L with
  | 0 => exact pX11_readsSight_0 hC hnt J hJ a
  | 1 => exact pX11_readsSight_1 hC hnt J hJ a
  | L + 2 => exact c_no
