/-! ===== String.length, String.charAt, of the constants ===== -/
theorem dJ0_length_8abf5_0 : decode cJ0_length_8abf5 0 = .ok (.aload_n 0, 1) := by decide +kernel
theorem dJ0_length_8abf5_1 : decode cJ0_length_8abf5 1 = .ok (.getfield 9, 3) := by decide +kernel
theorem dJ0_length_8abf5_4 : decode cJ0_length_8abf5 4 = .ok (.arraylength, 1) := by decide +kernel
theorem dJ0_length_8abf5_5 : decode cJ0_length_8abf5 5 = .ok (.aload_n 0, 1) := by decide +kernel
theorem dJ0_length_8abf5_6 : decode cJ0_length_8abf5 6 = .ok (.invokevirtual 335, 3) := by decide +kernel
theorem dJ0_length_8abf5_9 : decode cJ0_length_8abf5 9 = .ok (.ishr, 1) := by decide +kernel
theorem dJ0_length_8abf5_10 : decode cJ0_length_8abf5 10 = .ok (.ireturn, 1) := by decide +kernel
theorem dJ0_charAt_5068e_0 : decode cJ0_charAt_5068e 0 = .ok (.aload_n 0, 1) := by decide +kernel
theorem dJ0_charAt_5068e_1 : decode cJ0_charAt_5068e 1 = .ok (.invokevirtual 492, 3) := by decide +kernel
theorem dJ0_charAt_5068e_4 : decode cJ0_charAt_5068e 4 = .ok (.ifCond .eq 12, 3) := by decide +kernel
theorem dJ0_charAt_5068e_7 : decode cJ0_charAt_5068e 7 = .ok (.aload_n 0, 1) := by decide +kernel
theorem dJ0_charAt_5068e_8 : decode cJ0_charAt_5068e 8 = .ok (.getfield 9, 3) := by decide +kernel
theorem dJ0_charAt_5068e_11 : decode cJ0_charAt_5068e 11 = .ok (.iload_n 1, 1) := by decide +kernel
theorem dJ0_charAt_5068e_12 : decode cJ0_charAt_5068e 12 = .ok (.invokestatic 495, 3) := by decide +kernel
theorem dJ0_charAt_5068e_15 : decode cJ0_charAt_5068e 15 = .ok (.ireturn, 1) := by decide +kernel
theorem dJ0_charAt_5068e_16 : decode cJ0_charAt_5068e 16 = .ok (.aload_n 0, 1) := by decide +kernel
theorem dJ0_charAt_5068e_17 : decode cJ0_charAt_5068e 17 = .ok (.getfield 9, 3) := by decide +kernel
theorem dJ0_charAt_5068e_20 : decode cJ0_charAt_5068e 20 = .ok (.iload_n 1, 1) := by decide +kernel
theorem dJ0_charAt_5068e_21 : decode cJ0_charAt_5068e 21 = .ok (.invokestatic 498, 3) := by decide +kernel
theorem dJ0_charAt_5068e_24 : decode cJ0_charAt_5068e 24 = .ok (.ireturn, 1) := by decide +kernel
theorem dJ0_coder_7d493_0 : decode cJ0_coder_7d493 0 = .ok (.getstatic 38, 3) := by decide +kernel
theorem dJ0_coder_7d493_3 : decode cJ0_coder_7d493 3 = .ok (.ifCond .eq 10, 3) := by decide +kernel
theorem dJ0_coder_7d493_6 : decode cJ0_coder_7d493 6 = .ok (.aload_n 0, 1) := by decide +kernel
theorem dJ0_coder_7d493_7 : decode cJ0_coder_7d493 7 = .ok (.getfield 15, 3) := by decide +kernel
theorem dJ0_coder_7d493_10 : decode cJ0_coder_7d493 10 = .ok (.goto 4, 3) := by decide +kernel
theorem dJ0_coder_7d493_13 : decode cJ0_coder_7d493 13 = .ok (.iconst 1, 1) := by decide +kernel
theorem dJ0_coder_7d493_14 : decode cJ0_coder_7d493 14 = .ok (.ireturn, 1) := by decide +kernel
theorem dJ0_isLatin1_aae02_0 : decode cJ0_isLatin1_aae02 0 = .ok (.getstatic 38, 3) := by decide +kernel
theorem dJ0_isLatin1_aae02_3 : decode cJ0_isLatin1_aae02 3 = .ok (.ifCond .eq 14, 3) := by decide +kernel
theorem dJ0_isLatin1_aae02_6 : decode cJ0_isLatin1_aae02 6 = .ok (.aload_n 0, 1) := by decide +kernel
theorem dJ0_isLatin1_aae02_7 : decode cJ0_isLatin1_aae02 7 = .ok (.getfield 15, 3) := by decide +kernel
theorem dJ0_isLatin1_aae02_10 : decode cJ0_isLatin1_aae02 10 = .ok (.ifCond .ne 7, 3) := by decide +kernel
theorem dJ0_isLatin1_aae02_13 : decode cJ0_isLatin1_aae02 13 = .ok (.iconst 1, 1) := by decide +kernel
theorem dJ0_isLatin1_aae02_14 : decode cJ0_isLatin1_aae02 14 = .ok (.goto 4, 3) := by decide +kernel
theorem dJ0_isLatin1_aae02_17 : decode cJ0_isLatin1_aae02 17 = .ok (.iconst 0, 1) := by decide +kernel
theorem dJ0_isLatin1_aae02_18 : decode cJ0_isLatin1_aae02 18 = .ok (.ireturn, 1) := by decide +kernel
theorem dJ0_checkIndex_df160_0 : decode cJ0_checkIndex_df160 0 = .ok (.iload_n 0, 1) := by decide +kernel
theorem dJ0_checkIndex_df160_1 : decode cJ0_checkIndex_df160 1 = .ok (.iload_n 1, 1) := by decide +kernel
theorem dJ0_checkIndex_df160_2 : decode cJ0_checkIndex_df160 2 = .ok (.getstatic 1053, 3) := by decide +kernel
theorem dJ0_checkIndex_df160_5 : decode cJ0_checkIndex_df160 5 = .ok (.invokestatic 1059, 3) := by decide +kernel
theorem dJ0_checkIndex_df160_8 : decode cJ0_checkIndex_df160 8 = .ok (.pop, 1) := by decide +kernel
theorem dJ0_checkIndex_df160_9 : decode cJ0_checkIndex_df160 9 = .ok (.return_, 1) := by decide +kernel
theorem dJ1_charAt_3b067_0 : decode cJ1_charAt_3b067 0 = .ok (.iload_n 1, 1) := by decide +kernel
theorem dJ1_charAt_3b067_1 : decode cJ1_charAt_3b067 1 = .ok (.aload_n 0, 1) := by decide +kernel
theorem dJ1_charAt_3b067_2 : decode cJ1_charAt_3b067 2 = .ok (.arraylength, 1) := by decide +kernel
theorem dJ1_charAt_3b067_3 : decode cJ1_charAt_3b067 3 = .ok (.invokestatic 9, 3) := by decide +kernel
theorem dJ1_charAt_3b067_6 : decode cJ1_charAt_3b067 6 = .ok (.aload_n 0, 1) := by decide +kernel
theorem dJ1_charAt_3b067_7 : decode cJ1_charAt_3b067 7 = .ok (.iload_n 1, 1) := by decide +kernel
theorem dJ1_charAt_3b067_8 : decode cJ1_charAt_3b067 8 = .ok (.baload, 1) := by decide +kernel
theorem dJ1_charAt_3b067_9 : decode cJ1_charAt_3b067 9 = .ok (.sipush 255, 3) := by decide +kernel
theorem dJ1_charAt_3b067_12 : decode cJ1_charAt_3b067 12 = .ok (.iand, 1) := by decide +kernel
theorem dJ1_charAt_3b067_13 : decode cJ1_charAt_3b067 13 = .ok (.i2c, 1) := by decide +kernel
theorem dJ1_charAt_3b067_14 : decode cJ1_charAt_3b067 14 = .ok (.ireturn, 1) := by decide +kernel
theorem dJ3_checkIndex_8e157_0 : decode cJ3_checkIndex_8e157 0 = .ok (.iload_n 0, 1) := by decide +kernel
theorem dJ3_checkIndex_8e157_1 : decode cJ3_checkIndex_8e157 1 = .ok (.ifCond .lt 8, 3) := by decide +kernel
theorem dJ3_checkIndex_8e157_4 : decode cJ3_checkIndex_8e157 4 = .ok (.iload_n 0, 1) := by decide +kernel
theorem dJ3_checkIndex_8e157_5 : decode cJ3_checkIndex_8e157 5 = .ok (.iload_n 1, 1) := by decide +kernel
theorem dJ3_checkIndex_8e157_6 : decode cJ3_checkIndex_8e157 6 = .ok (.if_icmp .lt 10, 3) := by decide +kernel
theorem dJ3_checkIndex_8e157_9 : decode cJ3_checkIndex_8e157 9 = .ok (.aload_n 2, 1) := by decide +kernel
theorem dJ3_checkIndex_8e157_10 : decode cJ3_checkIndex_8e157 10 = .ok (.iload_n 0, 1) := by decide +kernel
theorem dJ3_checkIndex_8e157_11 : decode cJ3_checkIndex_8e157 11 = .ok (.iload_n 1, 1) := by decide +kernel
theorem dJ3_checkIndex_8e157_12 : decode cJ3_checkIndex_8e157 12 = .ok (.invokestatic 95, 3) := by decide +kernel
theorem dJ3_checkIndex_8e157_15 : decode cJ3_checkIndex_8e157 15 = .ok (.athrow, 1) := by decide +kernel
theorem dJ3_checkIndex_8e157_16 : decode cJ3_checkIndex_8e157 16 = .ok (.iload_n 0, 1) := by decide +kernel
theorem dJ3_checkIndex_8e157_17 : decode cJ3_checkIndex_8e157 17 = .ok (.ireturn, 1) := by decide +kernel
theorem yw_coder : Cond.methodLink "java/lang/String" 335 yJ0_coder_7d493 ∈ gw := gw_t 190 (by decide +kernel) rfl
theorem yw_coderI : Cond.instanceMethod yJ0_coder_7d493 ∈ gw := gw_t 191 (by decide +kernel) rfl
theorem yw_coderS : Cond.selects "java/lang/String" yJ0_coder_7d493 yJ0_coder_7d493 ∈ gw := gw_t 192 (by decide +kernel) rfl
theorem yw_coderC : Cond.code yJ0_coder_7d493 cJ0_coder_7d493 1 (some .byte) ∈ gw := gw_t 193 (by decide +kernel) rfl
theorem yw_cs : Cond.fieldLink "java/lang/String" 38 "java/lang/String" "COMPACT_STRINGS" "Z" ∈ gw := gw_t 194 (by decide +kernel) rfl
theorem yw_lat : Cond.methodLink "java/lang/String" 492 yJ0_isLatin1_aae02 ∈ gw := gw_t 200 (by decide +kernel) rfl
theorem yw_latI : Cond.instanceMethod yJ0_isLatin1_aae02 ∈ gw := gw_t 201 (by decide +kernel) rfl
theorem yw_latS : Cond.selects "java/lang/String" yJ0_isLatin1_aae02 yJ0_isLatin1_aae02 ∈ gw := gw_t 202 (by decide +kernel) rfl
theorem yw_latC : Cond.code yJ0_isLatin1_aae02 cJ0_isLatin1_aae02 1 (some .boolean) ∈ gw := gw_t 203 (by decide +kernel) rfl
theorem yw_lca : Cond.methodLink "java/lang/String" 495 yJ1_charAt_3b067 ∈ gw := gw_t 204 (by decide +kernel) rfl
theorem yw_lcaS : Cond.static yJ1_charAt_3b067 ∈ gw := gw_t 205 (by decide +kernel) rfl
theorem yw_lcaC : Cond.code yJ1_charAt_3b067 cJ1_charAt_3b067 2 (some .char) ∈ gw := gw_t 206 (by decide +kernel) rfl
theorem yw_ci : Cond.methodLink "java/lang/StringLatin1" 9 yJ0_checkIndex_df160 ∈ gw := gw_t 207 (by decide +kernel) rfl
theorem yw_ciS : Cond.static yJ0_checkIndex_df160 ∈ gw := gw_t 208 (by decide +kernel) rfl
theorem yw_ciC : Cond.code yJ0_checkIndex_df160 cJ0_checkIndex_df160 2 none ∈ gw := gw_t 209 (by decide +kernel) rfl
theorem yw_sf : Cond.fieldLink "java/lang/String" 1053 "jdk/internal/util/Preconditions" "SIOOBE_FORMATTER" "Ljava/util/function/BiFunction;" ∈ gw := gw_t 210 (by decide +kernel) rfl
theorem yw_pci : Cond.methodLink "java/lang/String" 1059 yJ3_checkIndex_8e157 ∈ gw := gw_t 212 (by decide +kernel) rfl
theorem yw_pciS : Cond.static yJ3_checkIndex_8e157 ∈ gw := gw_t 213 (by decide +kernel) rfl
theorem yw_pciC : Cond.code yJ3_checkIndex_8e157 cJ3_checkIndex_8e157 3 (some .int) ∈ gw := gw_t 214 (by decide +kernel) rfl
theorem yw_iS : Cond.initialized "java/lang/String" ∈ gw := gw_t 8 (by decide +kernel) rfl
theorem yw_iL : Cond.initialized "java/lang/StringLatin1" ∈ gw := gw_t 9 (by decide +kernel) rfl
theorem yw_iP : Cond.initialized "jdk/internal/util/Preconditions" ∈ gw := gw_t 10 (by decide +kernel) rfl
theorem yw_val : Cond.fieldLink "java/lang/String" 9 "java/lang/String" "value" "[B" ∈ gw := gw_t 2251 (by decide +kernel) rfl
theorem yw_cod : Cond.fieldLink "java/lang/String" 15 "java/lang/String" "coder" "B" ∈ gw := gw_t 2252 (by decide +kernel) rfl
theorem Snd.mono {y : MethodName} {w : Cond} {rm : Room} {S S' : ST} (h : Snd y w rm S) (hS : ∀ av μ Q, S' av μ Q → S av μ Q) : Snd y w rm S' := fun l hl G sz av μ Q q => h l hl G sz av μ Q (hS av μ Q q)
theorem Snd.one {y : MethodName} {cc : ByteArray} {nL : Nat} {ret : Option FieldType} {rm : Room} {S : ST} (hy : plainName y.cls = true) (hlen : ∀ av μ Q, S av μ Q → (lg_sl av).length ≤ nL)
    (h : ∀ Γ : CT, Ctx Γ y.cls cc nL ret rm → NT Γ → ∀ av, Cor Γ nL 0 0 0 (lv_args 0 av) [] (S av)) : Snd y (.code y cc nL ret) rm S := by
  refine Snd.mono (S := mk nL (fun _ L a => match L with | 0 => S a | _ => no)) ?_ (fun av μ Q q => ⟨hlen av μ Q q, fx_in q⟩)
  refine Snd.of (fun L a => match L with | 0 => (0, 0, 0, lv_args 0 a, []) | _ => (0, 0, 0, [], [])) hy (fun _ => rfl) ?_
  intro Γ hC hnt hnm J hJ L a
  match L with
  | 0 => exact h Γ hC hnt a
  | L + 1 => exact c_no
section Text15
variable {Γ : CT} {own : String} {cc : ByteArray} {nL cn sn pc : Nat} {ret : Option FieldType} {rm : Room} {loc : List (Nat × Value)} {stk : List Value} {f g : Sem}
theorem c_mono (h : ∀ μ Q, f μ Q → g μ Q) (k : Cor Γ nL cn sn pc loc stk g) : Cor Γ nL cn sn pc loc stk f := fun Q μ H locs ls hf hH hL => k Q μ H locs ls (h μ Q hf) hH hL
theorem c_brT {c : Prop} {z : Sem} (hc : c) (k : Cor Γ nL cn sn pc loc stk (br c f z)) (hz : True := trivial) : Cor Γ nL cn sn pc loc stk f := c_mono (g := br c f z) (fun μ Q q => ⟨fun _ => q, fun n => absurd hc n⟩) k
theorem c_brF {c : Prop} {z : Sem} (hc : ¬ c) (k : Cor Γ nL cn sn pc loc stk (br c z f)) : Cor Γ nL cn sn pc loc stk f := c_mono (g := br c z f) (fun μ Q q => ⟨fun n => absurd n hc, fun _ => q⟩) k
theorem q_getCS (hC : Ctx Γ "java/lang/String" cc nL ret rm) (d : decode cc pc = .ok (.getstatic 38, 3)) (kk : Cor Γ nL cn sn (pc + 3) loc (.int 1 :: stk) f) : Cor Γ nL cn sn pc loc stk f :=
  fun Q μ H locs ls hf hH hL => va_gets hC.1 hC.2.1 hC.2.2.2.2.2.2.2.2.2.2.1.2.2.2.2.2.1 hH.2.2.1 hC.2.2.2.2.1 (hC.2.2.2.2.2.1 _ yw_cs) (fun _ h => h) d (kk Q μ H locs ls hf hH hL)
theorem q_getSF (hC : Ctx Γ "java/lang/String" cc nL ret rm) (d : decode cc pc = .ok (.getstatic 1053, 3)) (kk : ∀ v : Value, (v = .null ∨ v = .ref 1999) → Cor Γ nL cn sn (pc + 3) loc (v :: stk) f) : Cor Γ nL cn sn pc loc stk f := by
  intro Q μ H locs ls hf hH hL
  rcases hC.2.2.2.2.2.2.2.2.2.2.1.2.2.2.2.2.2.1 with hz | hz
  · exact va_gets hC.1 hC.2.1 hz hH.2.2.1 hC.2.2.2.2.1 (hC.2.2.2.2.2.1 _ yw_sf) (fun _ h => h) d (kk .null (Or.inl rfl) Q μ H locs ls hf hH hL)
  · exact va_gets hC.1 hC.2.1 hz hH.2.2.1 hC.2.2.2.2.1 (hC.2.2.2.2.2.1 _ yw_sf) (fun _ h => h) d (kk (.ref 1999) (Or.inr rfl) Q μ H locs ls hf hH hL)
theorem q_getCo (hC : Ctx Γ "java/lang/String" cc nL ret rm) {i : Nat} (hi : i < scN) (d : decode cc pc = .ok (.getfield 15, 3)) (kk : Cor Γ nL cn sn (pc + 3) loc (.int 0 :: stk) f) : Cor Γ nL cn sn pc loc (.ref (2000 + i) :: stk) f :=
  fun Q μ H locs ls hf hH hL => vk_getf hC.1 hC.2.1 (hC.2.2.2.2.2.2.2.2.2.2.1.2.2.2.1 i hi).2.1 hH.2.2.1 hC.2.2.2.2.1 (hC.2.2.2.2.2.1 _ yw_cod) (fun _ h => h) d (kk Q μ H locs ls hf hH hL)
theorem q_getVa (hC : Ctx Γ "java/lang/String" cc nL ret rm) {i : Nat} (hi : i < scN) (d : decode cc pc = .ok (.getfield 9, 3)) (kk : Cor Γ nL cn sn (pc + 3) loc (.ref (2100 + i) :: stk) f) : Cor Γ nL cn sn pc loc (.ref (2000 + i) :: stk) f :=
  fun Q μ H locs ls hf hH hL => vk_getf hC.1 hC.2.1 (hC.2.2.2.2.2.2.2.2.2.2.1.2.2.2.1 i hi).2.2.1 hH.2.2.1 hC.2.2.2.2.1 (hC.2.2.2.2.2.1 _ yw_val) (fun _ h => h) d (kk Q μ H locs ls hf hH hL)
theorem q_alenS (hC : Ctx Γ own cc nL ret rm) {i : Nat} (hi : i < scN) (d : decode cc pc = .ok (.arraylength, 1)) (kk : Cor Γ nL cn sn (pc + 1) loc (.int (nI (scLen.getD i 0)) :: stk) f) : Cor Γ nL cn sn pc loc (.ref (2100 + i) :: stk) f :=
  fun Q μ H locs ls hf hH hL => va_tlen hC.1 hC.2.1 (hC.2.2.2.2.2.2.2.2.2.2.1.2.2.2.1 i hi).2.2.2 hH.2.2.1 rfl d (kk Q μ H locs ls hf hH hL)
theorem q_baldS (hC : Ctx Γ own cc nL ret rm) {i k : Nat} (hi : i < scN) (hk : k < scLen.getD i 0) (hk2 : k < 2 ^ 31) (hl2 : scLen.getD i 0 < 2 ^ 31) (d : decode cc pc = .ok (.baload, 1)) (kk : Cor Γ nL cn sn (pc + 1) loc (.int ((scByt.getD i []).getD k 0) :: stk) f) : Cor Γ nL cn sn pc loc (.int (nI k) :: .ref (2100 + i) :: stk) f :=
  fun Q μ H locs ls hf hH hL => va_tb hC.1 hC.2.1 (hC.2.2.2.2.2.2.2.2.2.2.1.2.2.2.1 i hi).2.2.2 hH.2.2.1 (vp_in_nI hk hl2) (v := .int ((scByt.getD i []).getD k 0)) (by rw [nI_clamp hk2]) d (kk Q μ H locs ls hf hH hL)
end Text15
def SJ_coder : ST := fun av μ Q => ∃ i : Nat, i < scN ∧ av = [.ref (2000 + i)] ∧ Q (.inl (some (.int 0))) μ
def SJ_lat : ST := fun av μ Q => ∃ i : Nat, i < scN ∧ av = [.ref (2000 + i)] ∧ Q (.inl (some (.int 1))) μ
def SJ_pci : ST := fun av μ Q => ∃ i n v, av = [.int i, .int n, v] ∧ (v = .null ∨ v = .ref 1999) ∧ 0 ≤ i ∧ i < n ∧ Q (.inl (some (.int i))) μ
def SJ_ci : ST := fun av μ Q => ∃ i n, av = [.int i, .int n] ∧ 0 ≤ i ∧ i < n ∧ Q (.inl none) μ
def SJ_lca : ST := fun av μ Q => ∃ i k : Nat, i < scN ∧ k < scLen.getD i 0 ∧ av = [.ref (2100 + i), .int (nI k)] ∧ Q (.inl (some (.int ((scByt.getD i []).getD k 0)))) μ
def rmJ_leaf : Room := rmk 6 0 0 150
def rmJ_two : Room := rmk 8 0 0 200
def rmJ_three : Room := rmk 10 0 0 300
def rmJ_four : Room := rmk 12 0 0 400
def rmJ0_length_8abf5 : Room := rmk 20 0 0 600
def rmJ0_charAt_5068e : Room := rmk 20 0 0 600
theorem nJ0_length_8abf5 : nameOk yJ0_length_8abf5 0 = true := by decide +kernel
theorem nJ0_charAt_5068e : nameOk yJ0_charAt_5068e 1 = true := by decide +kernel
theorem nJ_coder : nameOk yJ0_coder_7d493 0 = true := by decide +kernel
theorem nJ_lat : nameOk yJ0_isLatin1_aae02 0 = true := by decide +kernel
theorem nJ_pci : nameOk yJ3_checkIndex_8e157 3 = true := by decide +kernel
theorem nJ_ci : nameOk yJ0_checkIndex_df160 2 = true := by decide +kernel
theorem nJ_lca : nameOk yJ1_charAt_3b067 2 = true := by decide +kernel
theorem q_bret {Γ : CT} {own : String} {cc : ByteArray} {nL cn sn pc : Nat} {rm : Room} {loc : List (Nat × Value)} {ty : FieldType} (hC : Ctx Γ own cc nL (some ty) rm) {x : Int32} (hn : narrow ty (.int x) = .int x) (d : decode cc pc = .ok (.ireturn, 1)) (h1 : cn ≤ rm.cells) (h2 : sn ≤ rm.slots) : Cor Γ nL cn sn pc loc [.int x] (rI x) :=
  fun Q μ H locs ls hf hH hL => wid hC h1 h2 (vx_ret (W.zret hC.1 hC.2.1 hC.2.2.2.1 hn (end_q hC hH hf) hH.2.2.1.2.2 d hC.2.2.2.2.2.2.1))
theorem sJ_coder : Snd yJ0_coder_7d493 (.code yJ0_coder_7d493 cJ0_coder_7d493 1 (some .byte)) rmJ_leaf SJ_coder := by
  refine Snd.one (by decide +kernel) (fun av μ Q ⟨i, _, e, _⟩ => by subst e; exact Nat.le_of_ble_eq_true rfl) ?_
  rintro Γ hC hnt av Q μ H locs ls ⟨i, hi, rfl, hq⟩ hH hL
  refine (?_ : Cor Γ 1 0 0 0 [(0, .ref (2000 + i))] [] (rI 0)) Q μ H locs ls hq hH hL
  refine q_getCS hC dJ0_coder_7d493_0 ?_
  refine c_brF (c := (1 : Int32) = 0) (z := no) (by decide) ?_
  refine q_if_eq hC 13 dJ0_coder_7d493_3 rfl c_no ?_
  refine q_aload_n hC 0 dJ0_coder_7d493_6 rfl rfl ?_
  refine q_getCo hC hi dJ0_coder_7d493_7 ?_
  refine q_goto hC 14 dJ0_coder_7d493_10 rfl ?_
  exact q_bret hC rfl dJ0_coder_7d493_14 (Nat.le_of_ble_eq_true rfl) (Nat.le_of_ble_eq_true rfl)
theorem sJ_lat : Snd yJ0_isLatin1_aae02 (.code yJ0_isLatin1_aae02 cJ0_isLatin1_aae02 1 (some .boolean)) rmJ_leaf SJ_lat := by
  refine Snd.one (by decide +kernel) (fun av μ Q ⟨i, _, e, _⟩ => by subst e; exact Nat.le_of_ble_eq_true rfl) ?_
  rintro Γ hC hnt av Q μ H locs ls ⟨i, hi, rfl, hq⟩ hH hL
  refine (?_ : Cor Γ 1 0 0 0 [(0, .ref (2000 + i))] [] (rI 1)) Q μ H locs ls hq hH hL
  refine q_getCS hC dJ0_isLatin1_aae02_0 ?_
  refine c_brF (c := (1 : Int32) = 0) (z := no) (by decide) ?_
  refine q_if_eq hC 17 dJ0_isLatin1_aae02_3 rfl c_no ?_
  refine q_aload_n hC 0 dJ0_isLatin1_aae02_6 rfl rfl ?_
  refine q_getCo hC hi dJ0_isLatin1_aae02_7 ?_
  refine c_brT (c := (0 : Int32) = 0) (z := no) rfl ?_
  refine q_if_ne hC 17 dJ0_isLatin1_aae02_10 rfl c_no ?_
  refine q_iconst hC dJ0_isLatin1_aae02_13 rfl ?_
  refine q_goto hC 18 dJ0_isLatin1_aae02_14 rfl ?_
  exact q_bret hC rfl dJ0_isLatin1_aae02_18 (Nat.le_of_ble_eq_true rfl) (Nat.le_of_ble_eq_true rfl)
theorem sJ_pci : Snd yJ3_checkIndex_8e157 (.code yJ3_checkIndex_8e157 cJ3_checkIndex_8e157 3 (some .int)) rmJ_leaf SJ_pci := by
  refine Snd.one (by decide +kernel) (fun av μ Q ⟨i, n, v, e, hv, _⟩ => by subst e; rcases hv with rfl | rfl <;> exact Nat.le_of_ble_eq_true rfl) ?_
  rintro Γ hC hnt av Q μ H locs ls ⟨i, n, v, rfl, hv, h0, hn, hq⟩ hH hL
  refine (?_ : Cor Γ 3 0 0 0 [(0, .int i), (1, .int n), (2, v)] [] (rI i)) Q μ H locs ls hq hH hL
  refine q_iload_n hC 0 dJ3_checkIndex_8e157_0 rfl rfl ?_
  refine c_brF (c := i < 0) (z := no) (by rw [Int32.not_lt]; exact h0) ?_
  refine q_if_lt hC 9 dJ3_checkIndex_8e157_1 rfl c_no ?_
  refine q_iload_n hC 0 dJ3_checkIndex_8e157_4 rfl rfl ?_
  refine q_iload_n hC 1 dJ3_checkIndex_8e157_5 rfl rfl ?_
  refine c_brT (c := i < n) (z := no) hn ?_
  refine q_ic_lt hC 16 dJ3_checkIndex_8e157_6 rfl ?_ c_no
  refine q_iload_n hC 0 dJ3_checkIndex_8e157_16 rfl rfl ?_
  exact q_iret hC dJ3_checkIndex_8e157_17 (Nat.le_of_ble_eq_true rfl) (Nat.le_of_ble_eq_true rfl)
theorem sJ_ci : Snd yJ0_checkIndex_df160 (.code yJ0_checkIndex_df160 cJ0_checkIndex_df160 2 none) rmJ_two SJ_ci := by
  refine Snd.one (by decide +kernel) (fun av μ Q ⟨i, n, e, _⟩ => by subst e; exact Nat.le_of_ble_eq_true rfl) ?_
  rintro Γ hC hnt av Q μ H locs ls ⟨i, n, rfl, h0, hn, hq⟩ hH hL
  refine (?_ : Cor Γ 2 0 0 0 [(0, .int i), (1, .int n)] [] rV) Q μ H locs ls hq hH hL
  refine q_iload_n hC 0 dJ0_checkIndex_df160_0 rfl rfl ?_
  refine q_iload_n hC 1 dJ0_checkIndex_df160_1 rfl rfl ?_
  refine q_getSF hC dJ0_checkIndex_df160_2 (fun v hv => ?_)
  refine c_mono (g := cI SJ_pci [.int i, .int n, v] fun _ => rV) (fun μ Q q => ⟨i, n, v, rfl, hv, h0, hn, q⟩) ?_
  refine q_cSI hC hnt (stk := []) (as := [.int i, .int n, v]) sJ_pci nJ_pci rfl yw_pci yw_pciS yw_iP yw_pciC (Nat.le_of_ble_eq_true rfl) dJ0_checkIndex_df160_5 rfl (fun v1 => ?_)
  refine q_popI hC dJ0_checkIndex_df160_8 ?_
  exact q_vret hC dJ0_checkIndex_df160_9 (Nat.le_of_ble_eq_true rfl) (Nat.le_of_ble_eq_true rfl)
theorem scA1 : ∀ i, i < scN → ∀ k, k < scLen.getD i 0 → (((((scByt.getD i []).getD k 0) &&& 255).toUInt32 % 65536).toInt32 = (scByt.getD i []).getD k 0 ∧ narrow .char (.int ((scByt.getD i []).getD k 0)) = .int ((scByt.getD i []).getD k 0)) := by decide +kernel
theorem scA2 : ∀ i, i < scN → scLen.getD i 0 < 100 ∧ nI (scLen.getD i 0) >>> ((0 : Int32) &&& 31) = nI (scLen.getD i 0) := by decide +kernel
theorem sJ_lca : Snd yJ1_charAt_3b067 (.code yJ1_charAt_3b067 cJ1_charAt_3b067 2 (some .char)) rmJ_three SJ_lca := by
  refine Snd.one (by decide +kernel) (fun av μ Q ⟨i, n, _, _, e, _⟩ => by subst e; exact Nat.le_of_ble_eq_true rfl) ?_
  rintro Γ hC hnt av Q μ H locs ls ⟨i, k, hi, hk, rfl, hq⟩ hH hL
  have hl := (scA2 i hi).1
  have ha := scA1 i hi k hk
  refine (?_ : Cor Γ 2 0 0 0 [(0, .ref (2100 + i)), (1, .int (nI k))] [] (rI ((scByt.getD i []).getD k 0))) Q μ H locs ls hq hH hL
  refine q_iload_n hC 1 dJ1_charAt_3b067_0 rfl rfl ?_
  refine q_aload_n hC 0 dJ1_charAt_3b067_1 rfl rfl ?_
  refine q_alenS hC hi dJ1_charAt_3b067_2 ?_
  refine c_mono (g := cV SJ_ci [.int (nI k), .int (nI (scLen.getD i 0))] (rI ((scByt.getD i []).getD k 0))) (fun μ Q q => ⟨_, _, rfl, nI_pos' (by omega), nI_lt hk (by omega), q⟩) ?_
  refine q_cSV hC hnt (stk := []) (as := [.int (nI k), .int (nI (scLen.getD i 0))]) sJ_ci nJ_ci rfl yw_ci yw_ciS yw_iS yw_ciC (Nat.le_of_ble_eq_true rfl) dJ1_charAt_3b067_3 rfl ?_
  refine q_aload_n hC 0 dJ1_charAt_3b067_6 rfl rfl ?_
  refine q_iload_n hC 1 dJ1_charAt_3b067_7 rfl rfl ?_
  refine q_baldS hC hi hk (by omega) (by omega) dJ1_charAt_3b067_8 ?_
  refine q_sipush hC dJ1_charAt_3b067_9 (v := 255) (by decide) ?_
  refine q_iand hC dJ1_charAt_3b067_12 ?_
  refine q_i2c hC dJ1_charAt_3b067_13 ?_
  rw [ha.1]
  exact q_bret hC ha.2 dJ1_charAt_3b067_14 (Nat.le_of_ble_eq_true rfl) (Nat.le_of_ble_eq_true rfl)
theorem sJ0_length_8abf5 : Snd yJ0_length_8abf5 (.code yJ0_length_8abf5 cJ0_length_8abf5 1 (some .int)) rmJ0_length_8abf5 SJ_length := by
  refine Snd.one (by decide +kernel) (fun av μ Q ⟨i, _, e, _⟩ => by subst e; exact Nat.le_of_ble_eq_true rfl) ?_
  rintro Γ hC hnt av Q μ H locs ls ⟨i, hi, rfl, hq⟩ hH hL
  refine (?_ : Cor Γ 1 0 0 0 [(0, .ref (2000 + i))] [] (rI (nI (scLen.getD i 0)))) Q μ H locs ls hq hH hL
  refine q_aload_n hC 0 dJ0_length_8abf5_0 rfl rfl ?_
  refine q_getVa hC hi dJ0_length_8abf5_1 ?_
  refine q_alenS hC hi dJ0_length_8abf5_4 ?_
  refine q_aload_n hC 0 dJ0_length_8abf5_5 rfl rfl ?_
  refine c_mono (g := obS (2000 + i) (cI SJ_coder [.ref (2000 + i)] fun x => rI (nI (scLen.getD i 0) >>> (x &&& 31)))) (fun μ Q q => ⟨⟨i, hi, rfl⟩, i, hi, rfl, ?_⟩) ?_
  · show rI (nI (scLen.getD i 0) >>> ((0 : Int32) &&& 31)) μ Q
    rw [(scA2 i hi).2]
    exact q
  refine q_cTI hC hnt (stk := [.int (nI (scLen.getD i 0))]) (as := []) sJ_coder rfl nJ_coder rfl yw_coder yw_coderI yw_coderS yw_iS yw_coderC (Nat.le_of_ble_eq_true rfl) dJ0_length_8abf5_6 rfl (fun x => ?_)
  refine q_ishr hC dJ0_length_8abf5_9 ?_
  exact q_iret hC dJ0_length_8abf5_10 (Nat.le_of_ble_eq_true rfl) (Nat.le_of_ble_eq_true rfl)
theorem sJ0_charAt_5068e : Snd yJ0_charAt_5068e (.code yJ0_charAt_5068e cJ0_charAt_5068e 2 (some .char)) rmJ0_charAt_5068e SJ_charAt := by
  refine Snd.one (by decide +kernel) (fun av μ Q ⟨i, n, _, _, e, _⟩ => by subst e; exact Nat.le_of_ble_eq_true rfl) ?_
  rintro Γ hC hnt av Q μ H locs ls ⟨i, k, hi, hk, rfl, hq⟩ hH hL
  have hl := (scA2 i hi).1
  have ha := scA1 i hi k hk
  refine (?_ : Cor Γ 2 0 0 0 [(0, .ref (2000 + i)), (1, .int (nI k))] [] (rI ((scByt.getD i []).getD k 0))) Q μ H locs ls hq hH hL
  refine q_aload_n hC 0 dJ0_charAt_5068e_0 rfl rfl ?_
  refine c_mono (g := obS (2000 + i) (cI SJ_lat [.ref (2000 + i)] fun x => br (x = 0) (fun μ Q => x = 0 ∧ no μ Q) (rI ((scByt.getD i []).getD k 0)))) (fun μ Q q => ⟨⟨i, hi, rfl⟩, i, hi, rfl, ?_⟩) ?_
  · exact ⟨fun h => absurd h (by decide), fun _ => q⟩
  refine q_cTI hC hnt (stk := []) (as := []) sJ_lat rfl nJ_lat rfl yw_lat yw_latI yw_latS yw_iS yw_latC (Nat.le_of_ble_eq_true rfl) dJ0_charAt_5068e_1 rfl (fun x => ?_)
  refine q_if_eq hC 16 dJ0_charAt_5068e_4 rfl (fun Q μ H locs ls hf => hf.2.elim) ?_
  refine q_aload_n hC 0 dJ0_charAt_5068e_7 rfl rfl ?_
  refine q_getVa hC hi dJ0_charAt_5068e_8 ?_
  refine q_iload_n hC 1 dJ0_charAt_5068e_11 rfl rfl ?_
  refine c_mono (g := cI SJ_lca [.ref (2100 + i), .int (nI k)] fun x => fun μ Q => x = (scByt.getD i []).getD k 0 ∧ rI x μ Q) (fun μ Q q => ⟨i, k, hi, hk, rfl, rfl, q⟩) ?_
  refine q_cSI hC hnt (stk := []) (as := [.ref (2100 + i), .int (nI k)]) sJ_lca nJ_lca rfl yw_lca yw_lcaS yw_iL yw_lcaC (Nat.le_of_ble_eq_true rfl) dJ0_charAt_5068e_12 rfl (fun x => ?_)
  rintro Q μ H locs ls ⟨rfl, hq⟩ hH hL
  exact q_bret hC ha.2 dJ0_charAt_5068e_15 (Nat.le_of_ble_eq_true rfl) (Nat.le_of_ble_eq_true rfl) Q μ H locs ls hq hH hL
