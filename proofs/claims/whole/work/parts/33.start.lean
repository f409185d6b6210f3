/-! THE CLAIM OUT OF ONE WALK OF THE LAW'S BODY. Your part is whole_start (and what it stands on); all else here is the same for every law, but numbers. -/
def R_law : String := "SpiritWallLaw"
def lw_P (b : Addr) (xs : List Int32) (args : Array Value) (s : State) : Prop := args = #[.ref b] ∧ s.IntsAt b xs ∧ xs.length ≤ 3072 ∧ (Jvm.Cond.and given_1 narrow_1).before args s = true
/-- what a walk over the start with the record d0 says of its end, said of the start itself -/
theorem lw_closed {s t : State} {o : Outcome} {d0 : Drawn} {L : List Loc} {k n : Nat} (hd0 : s.drawn.sameBut d0 lw_cs) (hv : ∃ v, o = .returned v) (hW : (s.setDrawn d0).WarmedH t.vm) (hs : (s.setDrawn d0).sameButNew ({ t with vm := s.vm } : State) L k n) : State.butDraws s t lw_cs (fun t1 => Framed s o t1 L k n) := by
  have h2 : t.drawn = d0 := congrArg State.drawn hs.1
  refine ⟨⟨hv, hW, State.sameButNew.setDrawn hs s.drawn⟩, ?_, by decide⟩
  rw [h2]
  exact hd0
def lw_Q (_ : Array Value) (s : State) (o : Outcome) (t : State) : Prop := o = .returned (some (.int 1)) ∧ State.butDraws s t lw_cs (fun t1 => Framed s o t1 [] 601024 7293034)
def lw_Z (below : List Frame) (a : Array Value) (s : State) : State → Prop := fun t => ∃ o, t.status = .running ∧ Ended t below o ∧ lw_Q a s o t
/-- the law's own end, with 1 on the stack, nothing written that was there before, its room as the claim has it; d0: the record of draws at this point (at the entry s.drawn: begin with 'refine W.base ?_' and 'have hd0 := Drawn.sameBut.refl s.drawn lw_cs') -/
theorem lw_ret {p : Program} {l : Launch} {e : Env} {s : State} {m : MethodId} {below : List Frame} {meth : Method} {c : Code} {b : Nat} {d0 : Drawn} (hd0 : s.drawn.sameBut d0 lw_cs) (hx : p.tables.exec = Jvm.exec) (hb : c.code = code) (hr : meth.sig.returnType = ret) (hlocks : meth.locks = false) {pc : Nat} {H : Heap} {ls : Array Slot} (hdg : decode code pc = .ok (.ireturn, 1)) : W p l e room_1 (s.setDrawn d0) m #[Value.ref b] below meth c H [] 601024 7293034 (lw_Z below #[Value.ref b] s) (F0 m pc ls [.int 1]) := by
  intro T hT X
  obtain ⟨fs, hret, hrun, hended, hW, hframe⟩ := X.leave (v := some (.int 1)) (hlocks := hlocks) (fun h => by rw [hr] at h; cases h)
  have hmeth' : T.vm.method? m = some meth := X.method'
  refine ⟨T.setFrames fs, ?_, .returned (some (.int 1)), hrun, hended, rfl, lw_closed hd0 ⟨_, rfl⟩ hW hframe⟩
  jvm_step X.here [X.here.top, hx, hb, hdg, hmeth', hr, ret, narrow_b1]
  (try refine ⟨rfl, ?_⟩); (try refine ⟨rfl, ?_⟩)
  first | (intro acts; rw [hret _ acts rfl rfl rfl]) | rw [hret _ _ rfl rfl rfl]
  exact Steps.refl _
/-- what holds at the law's entry: the machine, the code, the tables' words (any of lw_tbl by 'hts w (by decide +kernel)'), the script of L ints xs at the cell b, what the Statement gives of the start (any of its parts by flat_of_before) -/
def lw_At (p : Program) (s : State) (m : MethodId) (meth : Method) (c : Code) (b L : Nat) (xs : Nat → Int32) : Prop :=
  p.tables.exec = Jvm.exec ∧ c.code = code ∧ meth.sig.returnType = ret ∧ c.maxLocals = 9 ∧ s.vm.findClass R_law = some m.cls ∧ (∀ w ∈ lw_tbl, w.before #[Value.ref b] s = true) ∧ va_X b L xs s s.heap ∧ b < s.heap.size ∧ meth.locks = false ∧ (Jvm.Cond.and given_1 narrow_1).before #[Value.ref b] s = true
theorem wl_c10 : Cond.classLink "SpiritWallLaw" 8 "SpiritWall" ∈ gw := gw_t 24 (by decide +kernel) rfl
theorem wl_c11 : Cond.classLink "SpiritWallLaw" 111 "SpiritWallModel" ∈ gw := gw_t 1476 (by decide +kernel) rfl
theorem wl_i10 : Cond.instantiable "SpiritWall" 15 ∈ gw := gw_t 25 (by decide +kernel) rfl
theorem wl_i11 : Cond.instantiable "SpiritWallModel" 32 ∈ gw := gw_t 1477 (by decide +kernel) rfl
theorem wl_m10 : Cond.methodLink "SpiritWallLaw" 110 yX10_init ∈ gw := gw_t 26 (by decide +kernel) rfl
theorem wl_m11 : Cond.methodLink "SpiritWallLaw" 113 yX11_init ∈ gw := gw_t 1478 (by decide +kernel) rfl
theorem wl_n10 : Cond.instanceMethod yX10_init ∈ gw := gw_t 27 (by decide +kernel) rfl
theorem wl_n11 : Cond.instanceMethod yX11_init ∈ gw := gw_t 1479 (by decide +kernel) rfl
theorem wl_k10 : Cond.code yX10_init cX10_init 1 none ∈ gw := gw_t 28 (by decide +kernel) rfl
theorem wl_k11 : Cond.code yX11_init cX11_init 1 none ∈ gw := gw_t 1480 (by decide +kernel) rfl
theorem wl_long : Cond.arrayClass .long ∈ gw := gw_t 2249 (by decide +kernel) rfl
/-! the law as a semantics: so many calls at most -/
def lawB (L : Nat) (xs : Nat → Int32) (J : LT) (x1 x2 x3 : Nat) (x4 : Int32) (k : Nat) : Sem := match k with
  | 0 => cl0 L xs J x1 x2 x3 x4
  | 1 => cl1 L xs J x1 x2 x3 x4
  | 2 => cl2 L xs J x1 x2 x3 x4
  | 3 => cl3 L xs J x1 x2 x3 x4
  | 4 => cl4 L xs J x1 x2 x3 x4
  | 5 => cl5 L xs J x1 x2 x3 x4
  | 6 => cl6 L xs J x1 x2 x3 x4
  | 7 => cl7 L xs J x1 x2 x3 x4
  | 8 => cl8 L xs J x1 x2 x3 x4
  | 9 => cl9 L xs J x1 x2 x3 x4
  | 10 => cl10 L xs J x1 x2 x3 x4
  | 11 => cl11 L xs J x1 x2 x3 x4
  | 12 => cl12 L xs J x1 x2 x3 x4
  | 13 => cl13 L xs J x1 x2 x3 x4
  | 14 => cl14 L xs J x1 x2 x3 x4
  | 15 => cl15 L xs J x1 x2 x3 x4
  | 16 => cl16 L xs J x1 x2 x3 x4
  | 17 => cl17 L xs J x1 x2 x3 x4
  | 18 => cl18 L xs J x1 x2 x3 x4
  | 19 => cl19 L xs J x1 x2 x3 x4
  | 20 => cl20 L xs J x1 x2 x3 x4
  | 21 => cl21 L xs J x1 x2 x3 x4
  | 22 => cl22 L xs J x1 x2 x3 x4
  | 23 => cl23 L xs J x1 x2 x3 x4
  | 24 => cl24 L xs J x1 x2 x3 x4
  | 25 => cl25 L xs J x1 x2 x3 x4
  | 26 => cl26 L xs J x1 x2 x3 x4
  | 27 => cl27 L xs J x1 x2 x3 x4
  | 28 => cl28 L xs J x1 x2 x3 x4
  | 29 => cl29 L xs J x1 x2 x3 x4
  | 30 => cl30 L xs J x1 x2 x3 x4
  | 31 => cl31 L xs J x1 x2 x3 x4
  | 32 => cl32 L xs J x1 x2 x3 x4
  | 33 => cl33 L xs J x1 x2 x3 x4
  | 34 => cl34 L xs J x1 x2 x3 x4
  | 35 => cl35 L xs J x1 x2 x3 x4
  | 36 => cl36 L xs J x1 x2 x3 x4
  | 37 => cl37 L xs J x1 x2 x3 x4
  | 38 => cl38 L xs J x1 x2 x3 x4
  | 39 => cl39 L xs J x1 x2 x3 x4
  | 40 => cl40 L xs J x1 x2 x3 x4
  | 41 => cl41 L xs J x1 x2 x3 x4
  | 42 => cl42 L xs J x1 x2 x3 x4
  | 43 => cl43 L xs J x1 x2 x3 x4
  | 44 => cl44 L xs J x1 x2 x3 x4
  | 45 => cl45 L xs J x1 x2 x3 x4
  | 46 => cl46 L xs J x1 x2 x3 x4
  | 47 => cl47 L xs J x1 x2 x3 x4
  | 48 => cl48 L xs J x1 x2 x3 x4
  | 49 => cl49 L xs J x1 x2 x3 x4
  | 50 => cl50 L xs J x1 x2 x3 x4
  | 51 => cl51 L xs J x1 x2 x3 x4
  | 52 => cl52 L xs J x1 x2 x3 x4
  | _ => cl53 L xs J x1 x2 x3 x4
def lawS (L : Nat) (xs : Nat → Int32) : Nat → LT
  | 0 => fun _ _ _ _ => no
  | n + 1 => fun x1 x2 x3 x4 => br (nI L - 6 < x4) (rZ 1) (sld L xs x4 fun v => sw (v &&& 63) (0) 53 fun k => lawB L xs (lawS L xs n) x1 x2 x3 x4 k)
def lawM (L : Nat) (xs : Nat → Int32) : Sem :=
  nO 10 fun r1 => cV SX10_init [.ref r1] <| nO 11 fun r2 => cV SX11_init [.ref r2] <| nA 4 1 fun r3 => lawS L xs 513 r1 r2 r3 0
theorem p_law {Γ : CT} (hC : Ctx Γ "SpiritWallLaw" cL_law 9 (some .boolean) room_1) (hnt : NT Γ) (hN : NcA (kS Γ)) {L : Nat} {xs : Nat → Int32} (hX : Scr Γ L xs) :
    ∀ n cn sn x1 x2 x3 x4, cn + 100 * n ≤ 601024 → sn + 1000 * n ≤ 7293034 → Cor Γ 9 cn sn 23 [(0, .ref 1900), (1, .ref x1), (2, .ref x2), (3, .ref x3), (4, .int x4)] [] (lawS L xs n x1 x2 x3 x4) := by
  intro n
  induction n with
  | zero => intro cn sn x1 x2 x3 x4 _ _; exact c_no
  | succ n ih =>
    intro cn sn x1 x2 x3 x4 h1 h2
    show Cor Γ 9 cn sn 23 _ [] (br (nI L - 6 < x4) (rZ 1) (sld L xs x4 fun v => sw (v &&& 63) (0) 53 fun k => lawB L xs (lawS L xs n) x1 x2 x3 x4 k))
    have g1 : cn + 100 + 100 * n ≤ 601024 := by clear ih hC hnt hN hX; omega
    have g2 : sn + 1000 + 1000 * n ≤ 7293034 := by clear ih hC hnt hN hX; omega
    have hJ : Cor Γ 9 (cn + 100) (sn + 1000) 23 [(0, .ref 1900), (1, .ref x1), (2, .ref x2), (3, .ref x3), (4, .int (x4 + 6))] [] (lawS L xs n x1 x2 x3 (x4 + 6)) := ih _ _ _ _ _ _ g1 g2
    have g1 : cn + 100 ≤ 601024 := Nat.le_trans (Nat.le_add_right _ _) g1
    have g2 : sn + 1000 ≤ 7293034 := Nat.le_trans (Nat.le_add_right _ _) g2
    refine q_iload hC 4 dL_law_23 rfl ?_
    refine q_aload_n hC 0 dL_law_25 rfl rfl ?_
    refine q_slen hC hX dL_law_26 ?_
    refine q_bipush hC (v := 6) dL_law_27 rfl ?_
    refine q_isub hC dL_law_29 ?_
    refine q_ic_gt hC 2598 dL_law_30 rfl ?_ ?_
    · refine q_iconst hC dL_law_2598 rfl ?_
      exact q_zret hC dL_law_2599 (by simp only [room_1]; omega) (by simp only [room_1]; omega)
    · refine q_aload_n hC 0 dL_law_33 rfl rfl ?_
      refine q_iload hC 4 dL_law_34 rfl ?_
      refine q_sld hC hX dL_law_36 (fun v => ?_)
      refine q_bipush hC (v := 63) dL_law_37 rfl ?_
      refine q_iand hC dL_law_39 ?_
      refine q_sw hC (0) 53 (fun k => ([268, 341, 366, 379, 392, 405, 430, 455, 468, 536, 549, 617, 673, 729, 797, 865, 945, 1013, 1081, 1149, 1162, 1175, 1188, 1202, 1258, 1271, 1339, 1395, 1408, 1449, 1492, 1548, 1561, 1617, 1672, 1728, 1741, 1845, 1936, 2004, 2079, 2135, 2148, 2204, 2260, 2273, 2341, 2385, 2398, 2454, 2510, 2535, 2548] : List Nat).getD k 2592) dL_law_40 rfl rfl (by decide +kernel) rfl ?_
      intro i hi
      match i, hi with
      | 0, _ => exact c_pc (pc' := 268) rfl (pcl0 hC hnt hN hX _ g1 g2 hJ)
      | 1, _ => exact c_pc (pc' := 341) rfl (pcl1 hC hnt hN hX _ g1 g2 hJ)
      | 2, _ => exact c_pc (pc' := 366) rfl (pcl2 hC hnt hN hX _ g1 g2 hJ)
      | 3, _ => exact c_pc (pc' := 379) rfl (pcl3 hC hnt hN hX _ g1 g2 hJ)
      | 4, _ => exact c_pc (pc' := 392) rfl (pcl4 hC hnt hN hX _ g1 g2 hJ)
      | 5, _ => exact c_pc (pc' := 405) rfl (pcl5 hC hnt hN hX _ g1 g2 hJ)
      | 6, _ => exact c_pc (pc' := 430) rfl (pcl6 hC hnt hN hX _ g1 g2 hJ)
      | 7, _ => exact c_pc (pc' := 455) rfl (pcl7 hC hnt hN hX _ g1 g2 hJ)
      | 8, _ => exact c_pc (pc' := 468) rfl (pcl8 hC hnt hN hX _ g1 g2 hJ)
      | 9, _ => exact c_pc (pc' := 536) rfl (pcl9 hC hnt hN hX _ g1 g2 hJ)
      | 10, _ => exact c_pc (pc' := 549) rfl (pcl10 hC hnt hN hX _ g1 g2 hJ)
      | 11, _ => exact c_pc (pc' := 617) rfl (pcl11 hC hnt hN hX _ g1 g2 hJ)
      | 12, _ => exact c_pc (pc' := 673) rfl (pcl12 hC hnt hN hX _ g1 g2 hJ)
      | 13, _ => exact c_pc (pc' := 729) rfl (pcl13 hC hnt hN hX _ g1 g2 hJ)
      | 14, _ => exact c_pc (pc' := 797) rfl (pcl14 hC hnt hN hX _ g1 g2 hJ)
      | 15, _ => exact c_pc (pc' := 865) rfl (pcl15 hC hnt hN hX _ g1 g2 hJ)
      | 16, _ => exact c_pc (pc' := 945) rfl (pcl16 hC hnt hN hX _ g1 g2 hJ)
      | 17, _ => exact c_pc (pc' := 1013) rfl (pcl17 hC hnt hN hX _ g1 g2 hJ)
      | 18, _ => exact c_pc (pc' := 1081) rfl (pcl18 hC hnt hN hX _ g1 g2 hJ)
      | 19, _ => exact c_pc (pc' := 1149) rfl (pcl19 hC hnt hN hX _ g1 g2 hJ)
      | 20, _ => exact c_pc (pc' := 1162) rfl (pcl20 hC hnt hN hX _ g1 g2 hJ)
      | 21, _ => exact c_pc (pc' := 1175) rfl (pcl21 hC hnt hN hX _ g1 g2 hJ)
      | 22, _ => exact c_pc (pc' := 1188) rfl (pcl22 hC hnt hN hX _ g1 g2 hJ)
      | 23, _ => exact c_pc (pc' := 1202) rfl (pcl23 hC hnt hN hX _ g1 g2 hJ)
      | 24, _ => exact c_pc (pc' := 1258) rfl (pcl24 hC hnt hN hX _ g1 g2 hJ)
      | 25, _ => exact c_pc (pc' := 1271) rfl (pcl25 hC hnt hN hX _ g1 g2 hJ)
      | 26, _ => exact c_pc (pc' := 1339) rfl (pcl26 hC hnt hN hX _ g1 g2 hJ)
      | 27, _ => exact c_pc (pc' := 1395) rfl (pcl27 hC hnt hN hX _ g1 g2 hJ)
      | 28, _ => exact c_pc (pc' := 1408) rfl (pcl28 hC hnt hN hX _ g1 g2 hJ)
      | 29, _ => exact c_pc (pc' := 1449) rfl (pcl29 hC hnt hN hX _ g1 g2 hJ)
      | 30, _ => exact c_pc (pc' := 1492) rfl (pcl30 hC hnt hN hX _ g1 g2 hJ)
      | 31, _ => exact c_pc (pc' := 1548) rfl (pcl31 hC hnt hN hX _ g1 g2 hJ)
      | 32, _ => exact c_pc (pc' := 1561) rfl (pcl32 hC hnt hN hX _ g1 g2 hJ)
      | 33, _ => exact c_pc (pc' := 1617) rfl (pcl33 hC hnt hN hX _ g1 g2 hJ)
      | 34, _ => exact c_pc (pc' := 1672) rfl (pcl34 hC hnt hN hX _ g1 g2 hJ)
      | 35, _ => exact c_pc (pc' := 1728) rfl (pcl35 hC hnt hN hX _ g1 g2 hJ)
      | 36, _ => exact c_pc (pc' := 1741) rfl (pcl36 hC hnt hN hX _ g1 g2 hJ)
      | 37, _ => exact c_pc (pc' := 1845) rfl (pcl37 hC hnt hN hX _ g1 g2 hJ)
      | 38, _ => exact c_pc (pc' := 1936) rfl (pcl38 hC hnt hN hX _ g1 g2 hJ)
      | 39, _ => exact c_pc (pc' := 2004) rfl (pcl39 hC hnt hN hX _ g1 g2 hJ)
      | 40, _ => exact c_pc (pc' := 2079) rfl (pcl40 hC hnt hN hX _ g1 g2 hJ)
      | 41, _ => exact c_pc (pc' := 2135) rfl (pcl41 hC hnt hN hX _ g1 g2 hJ)
      | 42, _ => exact c_pc (pc' := 2148) rfl (pcl42 hC hnt hN hX _ g1 g2 hJ)
      | 43, _ => exact c_pc (pc' := 2204) rfl (pcl43 hC hnt hN hX _ g1 g2 hJ)
      | 44, _ => exact c_pc (pc' := 2260) rfl (pcl44 hC hnt hN hX _ g1 g2 hJ)
      | 45, _ => exact c_pc (pc' := 2273) rfl (pcl45 hC hnt hN hX _ g1 g2 hJ)
      | 46, _ => exact c_pc (pc' := 2341) rfl (pcl46 hC hnt hN hX _ g1 g2 hJ)
      | 47, _ => exact c_pc (pc' := 2385) rfl (pcl47 hC hnt hN hX _ g1 g2 hJ)
      | 48, _ => exact c_pc (pc' := 2398) rfl (pcl48 hC hnt hN hX _ g1 g2 hJ)
      | 49, _ => exact c_pc (pc' := 2454) rfl (pcl49 hC hnt hN hX _ g1 g2 hJ)
      | 50, _ => exact c_pc (pc' := 2510) rfl (pcl50 hC hnt hN hX _ g1 g2 hJ)
      | 51, _ => exact c_pc (pc' := 2535) rfl (pcl51 hC hnt hN hX _ g1 g2 hJ)
      | 52, _ => exact c_pc (pc' := 2548) rfl (pcl52 hC hnt hN hX _ g1 g2 hJ)
      | 53, _ => exact c_pc (pc' := 2592) rfl (pcl53 hC hnt hN hX _ g1 g2 hJ)
      | k + 54, h => exact absurd h (by omega)
theorem p_lawM {Γ : CT} (hC : Ctx Γ "SpiritWallLaw" cL_law 9 (some .boolean) room_1) (hnt : NT Γ) (hN : NcA (kS Γ)) {L : Nat} {xs : Nat → Int32} (hX : Scr Γ L xs) : Cor Γ 9 0 0 0 [(0, .ref 1900)] [] (lawM L xs) := by
  unfold lawM
  refine q_new hC (by decide) wl_c10 wl_i10 w_27 ⟨by simp only [room_1]; omega, by decide +kernel⟩ dL_law_0 (fun r1 => ?_)
  refine q_dup hC dL_law_3 ?_
  refine q_cIV hC hnt (stk := [.ref r1]) (as := []) sX10_init rfl nX10_init (roomOk_of (by decide +kernel)) wl_m10 wl_n10 w_27 wl_k10 (Nat.le_of_ble_eq_true rfl) dL_law_4 rfl ?_
  refine q_astore_n hC (loc' := [(1, .ref r1), (0, .ref 1900)]) dL_law_7 rfl (Nat.le_of_ble_eq_true rfl) rfl ?_
  refine q_new hC (by decide) wl_c11 wl_i11 w_830 ⟨by decide +kernel, by decide +kernel⟩ dL_law_8 (fun r2 => ?_)
  refine q_dup hC dL_law_11 ?_
  refine q_cIV hC hnt (stk := [.ref r2]) (as := []) sX11_init rfl nX11_init (roomOk_of (by decide +kernel)) wl_m11 wl_n11 w_830 wl_k11 (Nat.le_of_ble_eq_true rfl) dL_law_12 rfl ?_
  refine q_astore_n hC (loc' := [(2, .ref r2), (1, .ref r1), (0, .ref 1900)]) dL_law_15 rfl (Nat.le_of_ble_eq_true rfl) rfl ?_
  refine q_iconst hC dL_law_16 rfl ?_
  refine q_newa hC (atype := .long) (N := 1) (by decide) wl_long rfl (by decide) ⟨by decide +kernel, by decide +kernel⟩ dL_law_17 (fun r3 => ?_)
  refine q_astore_n hC (loc' := [(3, .ref r3), (2, .ref r2), (1, .ref r1), (0, .ref 1900)]) dL_law_19 rfl (Nat.le_of_ble_eq_true rfl) rfl ?_
  refine q_iconst hC dL_law_20 rfl ?_
  refine q_istoreA hC (loc' := [(4, .int 0), (3, .ref r3), (2, .ref r2), (1, .ref r1), (0, .ref 1900)]) dL_law_21 (Nat.le_of_ble_eq_true rfl) rfl ?_
  exact c_sub [4, 3, 2, 1, 0] rfl (p_law hC hnt hN hX 513 _ _ _ _ _ _ (by decide +kernel) (by decide +kernel))
/-! ===== the start ===== -/
theorem arr_known {args : Array Value} {s : State} {ty : FieldType} (h : (Cond.arrayClass ty).before args s = true) : ∃ cA : ClassId, ArrOfT s cA ty ∧ s.vm.findClass ("[" ++ ty.toString) = some cA := by
  obtain ⟨cA, kA, comp, h1, h2, h3⟩ := Cond.arrayClass_spec h
  exact ⟨cA, fun n z => ⟨fun k h => (by cases h), kA, h2, comp, h3⟩, h1⟩
theorem arr_knownS {args : Array Value} {s : State} {C : String} (h : (Cond.arrayOver (.object C)).before args s = true) : ∃ cA : ClassId, ArrOfT s cA (.object C) ∧ va_RA s cA (.object C) := by
  obtain ⟨comp, cA, kA, h1, h2, h3, h4, h5⟩ := Cond.arrayOver_spec h
  exact ⟨cA, fun n z => ⟨fun k h => (by cases h), kA, h3, comp, h4⟩, kA, comp, h3, h4, h1, h5⟩
def scOwn : List (String × Nat) := [("SpiritWall$Tokens", 31), ("SpiritWall$Tokens", 37), ("SpiritWall$Tokens", 39), ("SpiritWall$Tokens", 41), ("SpiritWall$Tokens", 43), ("SpiritWall$Tokens", 45), ("SpiritWall$Tokens", 47), ("SpiritWall$Tokens", 49), ("SpiritWall$Tokens", 51), ("SpiritWall$Tokens", 53), ("SpiritWall$Tokens", 55), ("SpiritWallModel", 425), ("SpiritWall", 413), ("SpiritWall", 418), ("SpiritWall", 420), ("SpiritWall", 422), ("SpiritWall", 424), ("", 0), ("", 0), ("", 0), ("SpiritWall", 439), ("SpiritWall", 209), ("SpiritWall", 442), ("SpiritWall", 254), ("SpiritWall", 452), ("SpiritWall", 444), ("SpiritWall", 309), ("SpiritWall", 359), ("SpiritWall", 363), ("SpiritWall", 385), ("SpiritWall", 396), ("SpiritWall", 429)]
abbrev FLT : List Cond := flatC (Jvm.Cond.and given_1 narrow_1)
theorem in_of {l l' : List Cond} (a n : Nat) (h : (l.drop a).take n = l') : ∀ w ∈ l', w ∈ l := fun w hw => by
  rw [← h] at hw
  exact List.mem_of_mem_drop (List.mem_of_mem_take hw)
def sT (i : Nat) : Term := .string (scOwn.getD i ("", 0)).1 (scOwn.getD i ("", 0)).2
def sV (i : Nat) : Term := .field (sT i) "java/lang/String" "value" "[B"
def strC (i : Nat) : List Cond := [.exactly (sT i) "java/lang/String", .eq (.field (sT i) "java/lang/String" "coder" "B") (.int 0), .arrayOf (sV i) .byte, .eq (.length (sV i)) (.int (Int32.ofNat (scLen.getD i 0)))]
  ++ (List.range (scLen.getD i 0)).map fun j => .eq (.elem (sV i) (.int (Int32.ofNat j))) (.int ((scByt.getD i []).getD j 0))
theorem strC_0 : ∀ w ∈ strC 0, w ∈ FLT := in_of 74 8 (by decide +kernel)
theorem strC_1 : ∀ w ∈ strC 1, w ∈ FLT := in_of 82 6 (by decide +kernel)
theorem strC_2 : ∀ w ∈ strC 2, w ∈ FLT := in_of 88 9 (by decide +kernel)
theorem strC_3 : ∀ w ∈ strC 3, w ∈ FLT := in_of 97 8 (by decide +kernel)
theorem strC_4 : ∀ w ∈ strC 4, w ∈ FLT := in_of 105 8 (by decide +kernel)
theorem strC_5 : ∀ w ∈ strC 5, w ∈ FLT := in_of 113 8 (by decide +kernel)
theorem strC_6 : ∀ w ∈ strC 6, w ∈ FLT := in_of 121 10 (by decide +kernel)
theorem strC_7 : ∀ w ∈ strC 7, w ∈ FLT := in_of 131 9 (by decide +kernel)
theorem strC_8 : ∀ w ∈ strC 8, w ∈ FLT := in_of 140 8 (by decide +kernel)
theorem strC_9 : ∀ w ∈ strC 9, w ∈ FLT := in_of 148 8 (by decide +kernel)
theorem strC_10 : ∀ w ∈ strC 10, w ∈ FLT := in_of 156 9 (by decide +kernel)
theorem strC_11 : ∀ w ∈ strC 11, w ∈ FLT := in_of 514 62 (by decide +kernel)
theorem strC_12 : ∀ w ∈ strC 12, w ∈ FLT := in_of 447 6 (by decide +kernel)
theorem strC_13 : ∀ w ∈ strC 13, w ∈ FLT := in_of 453 10 (by decide +kernel)
theorem strC_14 : ∀ w ∈ strC 14, w ∈ FLT := in_of 463 10 (by decide +kernel)
theorem strC_15 : ∀ w ∈ strC 15, w ∈ FLT := in_of 473 10 (by decide +kernel)
theorem strC_16 : ∀ w ∈ strC 16, w ∈ FLT := in_of 483 10 (by decide +kernel)
theorem strC_in : ∀ i : Nat, i < scN → ∀ w ∈ strC i, w ∈ FLT := by
  intro i hi
  match i, hi with
  | 0, _ => exact strC_0
  | 1, _ => exact strC_1
  | 2, _ => exact strC_2
  | 3, _ => exact strC_3
  | 4, _ => exact strC_4
  | 5, _ => exact strC_5
  | 6, _ => exact strC_6
  | 7, _ => exact strC_7
  | 8, _ => exact strC_8
  | 9, _ => exact strC_9
  | 10, _ => exact strC_10
  | 11, _ => exact strC_11
  | 12, _ => exact strC_12
  | 13, _ => exact strC_13
  | 14, _ => exact strC_14
  | 15, _ => exact strC_15
  | 16, _ => exact strC_16
  | k + 17, h => exact absurd h (by simp only [scN]; omega)
theorem strE_20 : Cond.exactly (sT 20) "java/lang/String" ∈ FLT := List.mem_of_getElem? (i := 165) (by decide +kernel)
theorem strE_21 : Cond.exactly (sT 21) "java/lang/String" ∈ FLT := List.mem_of_getElem? (i := 190) (by decide +kernel)
theorem strE_22 : Cond.exactly (sT 22) "java/lang/String" ∈ FLT := List.mem_of_getElem? (i := 218) (by decide +kernel)
theorem strE_23 : Cond.exactly (sT 23) "java/lang/String" ∈ FLT := List.mem_of_getElem? (i := 244) (by decide +kernel)
theorem strE_24 : Cond.exactly (sT 24) "java/lang/String" ∈ FLT := List.mem_of_getElem? (i := 273) (by decide +kernel)
theorem strE_25 : Cond.exactly (sT 25) "java/lang/String" ∈ FLT := List.mem_of_getElem? (i := 289) (by decide +kernel)
theorem strE_26 : Cond.exactly (sT 26) "java/lang/String" ∈ FLT := List.mem_of_getElem? (i := 314) (by decide +kernel)
theorem strE_27 : Cond.exactly (sT 27) "java/lang/String" ∈ FLT := List.mem_of_getElem? (i := 342) (by decide +kernel)
theorem strE_28 : Cond.exactly (sT 28) "java/lang/String" ∈ FLT := List.mem_of_getElem? (i := 374) (by decide +kernel)
theorem strE_29 : Cond.exactly (sT 29) "java/lang/String" ∈ FLT := List.mem_of_getElem? (i := 397) (by decide +kernel)
theorem strE_30 : Cond.exactly (sT 30) "java/lang/String" ∈ FLT := List.mem_of_getElem? (i := 422) (by decide +kernel)
theorem strE_31 : Cond.exactly (sT 31) "java/lang/String" ∈ FLT := List.mem_of_getElem? (i := 493) (by decide +kernel)
theorem str_at {args : Array Value} {s : State} {A : Nat → Prop} (hn : ∀ c ∈ FLT, c.before args s = true) (hA : ∀ a : Nat, a < s.heap.size → ¬ A a) {i : Nat} (hi : i < scN) : ∃ a v : Nat, (sT i).eval args s none [] s = some (.ref a) ∧
    va_O "java/lang/String" a A s s.heap ∧ va_OF "java/lang/String" "coder" "B" (.int 0) a A s s.heap ∧ va_OF "java/lang/String" "value" "[B" (.ref v) a A s s.heap ∧ va_T .byte v (scLen.getD i 0) (fun j => .int ((scByt.getD i []).getD j 0)) A s s.heap := by
  have hw : ∀ w ∈ strC i, w.before args s = true := fun w h => hn w (strC_in i hi w h)
  have hw2 := List.forall_mem_append.mp hw
  have h1 := hw2.1 _ (List.mem_cons_self)
  have h2 := hw2.1 _ (List.mem_cons_of_mem _ List.mem_cons_self)
  have h3 := hw2.1 _ (List.mem_cons_of_mem _ (List.mem_cons_of_mem _ List.mem_cons_self))
  have h4 := hw2.1 _ (List.mem_cons_of_mem _ (List.mem_cons_of_mem _ (List.mem_cons_of_mem _ List.mem_cons_self)))
  have h5 : ∀ j : Nat, j < scLen.getD i 0 → (Cond.eq (.elem (sV i) (.int (Int32.ofNat j))) (.int ((scByt.getD i []).getD j 0))).before args s = true := fun j hj => hw2.2 _ (List.mem_map.mpr ⟨j, List.mem_range.mpr hj, rfl⟩)
  obtain ⟨a, c, cA, kA, q1, -⟩ := Cond.exactly_spec (args := args) (first := s) (o := none) (s := s) (idx := []) (t := sT i) (cls := "java/lang/String") h1
  have hlen : ∀ i : Nat, i < scN → scLen.getD i 0 < 2 ^ 31 := by decide +kernel
  obtain ⟨v, t1, t2⟩ := va_Tof (f := fun j => .int ((scByt.getD i []).getD j 0)) (A := A) (hlen i hi) h3 (va_eqt h4) (fun j hj => va_eqt (h5 j hj)) hA
  exact ⟨a, v, q1, va_Oof h1 q1 hA, vk_OFof q1 (va_eqt h2) hA, vk_OFof q1 t1 hA, t2⟩
def stTm (i : Nat) : Term := .static "SpiritWall" (stN i) "[I"
def stC (i : Nat) : List Cond := [.arrayOf (stTm i) .int, .eq (.length (stTm i)) (.int 4)] ++ (List.range 4).map fun j => .eq (.elem (stTm i) (.int (Int32.ofNat j))) (.int (sI (1000 + i) j))
theorem stC_0 : ∀ w ∈ stC 0, w ∈ FLT := in_of 17 6 (by decide +kernel)
theorem stC_1 : ∀ w ∈ stC 1, w ∈ FLT := in_of 24 6 (by decide +kernel)
theorem stC_2 : ∀ w ∈ stC 2, w ∈ FLT := in_of 5 6 (by decide +kernel)
theorem stC_in : ∀ i : Nat, i < 3 → ∀ w ∈ stC i, w ∈ FLT := by
  intro i hi
  match i, hi with
  | 0, _ => exact stC_0
  | 1, _ => exact stC_1
  | 2, _ => exact stC_2
  | k + 3, h => exact absurd h (by omega)
theorem stL_in : ∀ i : Nat, i < 3 → Cond.laysStatic "SpiritWall" (stN i) "[I" ∈ lw_tbl := by
  intro i hi
  match i, hi with
  | 0, _ => exact List.mem_append_right _ (List.mem_of_getElem? (i := 652) (by decide +kernel))
  | 1, _ => exact List.mem_append_right _ (List.mem_of_getElem? (i := 654) (by decide +kernel))
  | 2, _ => exact List.mem_append_right _ (List.mem_of_getElem? (i := 77) (by decide +kernel))
  | k + 3, h => exact absurd h (by omega)
theorem st_at {args : Array Value} {s : State} {A : Nat → Prop} (hn : ∀ c ∈ FLT, c.before args s = true) (ht : ∀ w ∈ lw_tbl, w.before args s = true) (hini : (Cond.initialized "SpiritWall").before args s = true) (hA : ∀ a : Nat, a < s.heap.size → ¬ A a) {i : Nat} (hi : i < 3) : ∃ a : Nat, va_Z "SpiritWall" (stN i) "[I" (.ref a) A s s.heap ∧ va_T .int a 4 (fun j => .int (sI (1000 + i) j)) A s s.heap := by
  have hw : ∀ w ∈ stC i, w.before args s = true := fun w h => hn w (stC_in i hi w h)
  have hw2 := List.forall_mem_append.mp hw
  have h3 := hw2.1 _ (List.mem_cons_self)
  have h4 := hw2.1 _ (List.mem_cons_of_mem _ List.mem_cons_self)
  have h5 : ∀ j : Nat, j < 4 → (Cond.eq (.elem (stTm i) (.int (Int32.ofNat j))) (.int (sI (1000 + i) j))).before args s = true := fun j hj => hw2.2 _ (List.mem_map.mpr ⟨j, List.mem_range.mpr hj, rfl⟩)
  obtain ⟨v, t1, t2⟩ := va_Tof (f := fun j => .int (sI (1000 + i) j)) (N := 4) (A := A) (by decide) h3 (va_eqt h4) (fun j hj => va_eqt (h5 j hj)) hA
  exact ⟨v, va_Zof (ht _ (stL_in i hi)) hini t1 hA, t2⟩
theorem sr_in : ∀ r ∈ scTab, Cond.stringRef r.1 r.2.1 r.2.2.1 ∈ lw_tbl := by
  intro r hr
  obtain ⟨i, hi⟩ := List.getElem?_of_mem hr
  match i, hi with
  | 0, hi => cases hi; exact List.mem_append_right _ (List.mem_of_getElem? (i := 182) (by decide +kernel))
  | 1, hi => cases hi; exact List.mem_append_right _ (List.mem_of_getElem? (i := 237) (by decide +kernel))
  | 2, hi => cases hi; exact List.mem_append_right _ (List.mem_of_getElem? (i := 238) (by decide +kernel))
  | 3, hi => cases hi; exact List.mem_append_right _ (List.mem_of_getElem? (i := 239) (by decide +kernel))
  | 4, hi => cases hi; exact List.mem_append_right _ (List.mem_of_getElem? (i := 240) (by decide +kernel))
  | 5, hi => cases hi; exact List.mem_append_right _ (List.mem_of_getElem? (i := 241) (by decide +kernel))
  | 6, hi => cases hi; exact List.mem_append_right _ (List.mem_of_getElem? (i := 242) (by decide +kernel))
  | 7, hi => cases hi; exact List.mem_append_right _ (List.mem_of_getElem? (i := 243) (by decide +kernel))
  | 8, hi => cases hi; exact List.mem_append_right _ (List.mem_of_getElem? (i := 244) (by decide +kernel))
  | 9, hi => cases hi; exact List.mem_append_right _ (List.mem_of_getElem? (i := 245) (by decide +kernel))
  | 10, hi => cases hi; exact List.mem_append_right _ (List.mem_of_getElem? (i := 246) (by decide +kernel))
  | 11, hi => cases hi; exact List.mem_append_right _ (List.mem_of_getElem? (i := 2137) (by decide +kernel))
  | 12, hi => cases hi; exact List.mem_append_right _ (List.mem_of_getElem? (i := 1457) (by decide +kernel))
  | 13, hi => cases hi; exact List.mem_append_right _ (List.mem_of_getElem? (i := 1464) (by decide +kernel))
  | 14, hi => cases hi; exact List.mem_append_right _ (List.mem_of_getElem? (i := 1465) (by decide +kernel))
  | 15, hi => cases hi; exact List.mem_append_right _ (List.mem_of_getElem? (i := 1466) (by decide +kernel))
  | 16, hi => cases hi; exact List.mem_append_right _ (List.mem_of_getElem? (i := 1467) (by decide +kernel))
  | 17, hi => cases hi; exact List.mem_append_right _ (List.mem_of_getElem? (i := 2236) (by decide +kernel))
  | 18, hi => cases hi; exact List.mem_append_right _ (List.mem_of_getElem? (i := 2241) (by decide +kernel))
  | 19, hi => cases hi; exact List.mem_append_right _ (List.mem_of_getElem? (i := 2242) (by decide +kernel))
  | 20, hi => cases hi; exact List.mem_append_right _ (List.mem_of_getElem? (i := 2243) (by decide +kernel))
  | 21, hi => cases hi; exact List.mem_append_right _ (List.mem_of_getElem? (i := 2244) (by decide +kernel))
  | 22, hi => cases hi; exact List.mem_append_right _ (List.mem_of_getElem? (i := 1123) (by decide +kernel))
  | 23, hi => cases hi; exact List.mem_append_right _ (List.mem_of_getElem? (i := 1178) (by decide +kernel))
  | 24, hi => cases hi; exact List.mem_append_right _ (List.mem_of_getElem? (i := 1215) (by decide +kernel))
  | 25, hi => cases hi; exact List.mem_append_right _ (List.mem_of_getElem? (i := 1219) (by decide +kernel))
  | 26, hi => cases hi; exact List.mem_append_right _ (List.mem_of_getElem? (i := 1239) (by decide +kernel))
  | 27, hi => cases hi; exact List.mem_append_right _ (List.mem_of_getElem? (i := 1268) (by decide +kernel))
  | 28, hi => cases hi; exact List.mem_append_right _ (List.mem_of_getElem? (i := 1270) (by decide +kernel))
  | 29, hi => cases hi; exact List.mem_append_right _ (List.mem_of_getElem? (i := 1360) (by decide +kernel))
  | 30, hi => cases hi; exact List.mem_append_right _ (List.mem_of_getElem? (i := 1370) (by decide +kernel))
  | 31, hi => cases hi; exact List.mem_append_right _ (List.mem_of_getElem? (i := 1409) (by decide +kernel))
  | 32, hi => cases hi; exact List.mem_append_right _ (List.mem_of_getElem? (i := 1438) (by decide +kernel))
  | 33, hi => cases hi; exact List.mem_append_right _ (List.mem_of_getElem? (i := 1475) (by decide +kernel))
  | k + 34, hi => simp [scTab] at hi
theorem sr_at {args : Array Value} {s : State} (hn : ∀ c ∈ FLT, c.before args s = true) : ∃ f : Nat → Nat, ∀ r ∈ scTab, (Term.string r.1 r.2.1).eval args s none [] s = some (.ref (f r.2.2.2)) := by
  have key : ∀ t : Term, Cond.exactly t "java/lang/String" ∈ FLT → ∃ a : Nat, t.eval args s none [] s = some (.ref a) := fun t h => by
    obtain ⟨a, c, cA, kA, q1, -⟩ := Cond.exactly_spec (args := args) (first := s) (o := none) (s := s) (idx := []) (t := t) (cls := "java/lang/String") (hn _ h)
    exact ⟨a, q1⟩
  have k1 : ∀ i : Nat, i < scN → ∃ a : Nat, (sT i).eval args s none [] s = some (.ref a) := fun i hi => key _ (strC_in i hi _ (List.mem_append_left _ List.mem_cons_self))
  refine ⟨fun i => match (sT i).eval args s none [] s with | some (.ref a) => a | _ => 0, ?_⟩
  have kk : ∀ i : Nat, (∃ a : Nat, (sT i).eval args s none [] s = some (.ref a)) → (sT i).eval args s none [] s = some (.ref (match (sT i).eval args s none [] s with | some (.ref a) => a | _ => 0)) := fun i ⟨a, h⟩ => by rw [h]
  intro r hr
  obtain ⟨i, hi⟩ := List.getElem?_of_mem hr
  match i, hi with
  | 0, hi => cases hi; exact kk 0 (k1 0 (by decide))
  | 1, hi => cases hi; exact kk 1 (k1 1 (by decide))
  | 2, hi => cases hi; exact kk 2 (k1 2 (by decide))
  | 3, hi => cases hi; exact kk 3 (k1 3 (by decide))
  | 4, hi => cases hi; exact kk 4 (k1 4 (by decide))
  | 5, hi => cases hi; exact kk 5 (k1 5 (by decide))
  | 6, hi => cases hi; exact kk 6 (k1 6 (by decide))
  | 7, hi => cases hi; exact kk 7 (k1 7 (by decide))
  | 8, hi => cases hi; exact kk 8 (k1 8 (by decide))
  | 9, hi => cases hi; exact kk 9 (k1 9 (by decide))
  | 10, hi => cases hi; exact kk 10 (k1 10 (by decide))
  | 11, hi => cases hi; exact kk 11 (k1 11 (by decide))
  | 12, hi => cases hi; exact kk 12 (k1 12 (by decide))
  | 13, hi => cases hi; exact kk 13 (k1 13 (by decide))
  | 14, hi => cases hi; exact kk 14 (k1 14 (by decide))
  | 15, hi => cases hi; exact kk 15 (k1 15 (by decide))
  | 16, hi => cases hi; exact kk 16 (k1 16 (by decide))
  | 17, hi => cases hi; exact va_eqR (t := sT 12) (hn _ (List.mem_of_getElem? (i := 582) (by decide +kernel))) (kk 12 (k1 12 (by decide)))
  | 18, hi => cases hi; exact va_eqR (t := sT 13) (hn _ (List.mem_of_getElem? (i := 593) (by decide +kernel))) (kk 13 (k1 13 (by decide)))
  | 19, hi => cases hi; exact va_eqR (t := sT 14) (hn _ (List.mem_of_getElem? (i := 604) (by decide +kernel))) (kk 14 (k1 14 (by decide)))
  | 20, hi => cases hi; exact va_eqR (t := sT 15) (hn _ (List.mem_of_getElem? (i := 615) (by decide +kernel))) (kk 15 (k1 15 (by decide)))
  | 21, hi => cases hi; exact va_eqR (t := sT 16) (hn _ (List.mem_of_getElem? (i := 626) (by decide +kernel))) (kk 16 (k1 16 (by decide)))
  | 22, hi => cases hi; exact kk 20 (key _ strE_20)
  | 23, hi => cases hi; exact kk 21 (key _ strE_21)
  | 24, hi => cases hi; exact kk 22 (key _ strE_22)
  | 25, hi => cases hi; exact kk 23 (key _ strE_23)
  | 26, hi => cases hi; exact kk 24 (key _ strE_24)
  | 27, hi => cases hi; exact kk 25 (key _ strE_25)
  | 28, hi => cases hi; exact kk 26 (key _ strE_26)
  | 29, hi => cases hi; exact kk 27 (key _ strE_27)
  | 30, hi => cases hi; exact kk 28 (key _ strE_28)
  | 31, hi => cases hi; exact kk 29 (key _ strE_29)
  | 32, hi => cases hi; exact kk 30 (key _ strE_30)
  | 33, hi => cases hi; exact kk 31 (key _ strE_31)
  | k + 34, hi => simp [scTab] at hi
theorem nc_at {args : Array Value} {s : State} (hn : ∀ c ∈ FLT, c.before args s = true) : NcA s := by
  intro i j a b c d e
  match i, j, a, b, c, d, e with
  | 1, 1, _, _, _, _, h => exact absurd rfl h
  | 1, 2, _, _, _, _, _ => exact va_Nc.of (hn _ (List.mem_of_getElem? (i := 58) (by decide +kernel)))
  | 1, 3, _, _, _, _, _ => exact va_Nc.of (hn _ (List.mem_of_getElem? (i := 72) (by decide +kernel)))
  | 2, 1, _, _, _, _, _ => exact va_Nc.of (hn _ (List.mem_of_getElem? (i := 44) (by decide +kernel)))
  | 2, 2, _, _, _, _, h => exact absurd rfl h
  | 2, 3, _, _, _, _, _ => exact va_Nc.of (hn _ (List.mem_of_getElem? (i := 73) (by decide +kernel)))
  | 3, 1, _, _, _, _, _ => exact va_Nc.of (hn _ (List.mem_of_getElem? (i := 45) (by decide +kernel)))
  | 3, 2, _, _, _, _, _ => exact va_Nc.of (hn _ (List.mem_of_getElem? (i := 59) (by decide +kernel)))
  | 3, 3, _, _, _, _, h => exact absurd rfl h
  | 0, _, h, _, _, _, _ => exact absurd h (by omega)
  | _, 0, _, _, h, _, _ => exact absurd h (by omega)
  | i + 4, _, _, h, _, _, _ => exact absurd h (by omega)
  | _, j + 4, _, _, _, h, _ => exact absurd h (by omega)
def adF (sz b : Nat) (fS fT fV : Nat → Nat) (fm : Nat) (k : Nat) : Nat :=
  if k < 1000 then sz + k else if k < 1900 then fS (k - 1000) else if k = 1900 then b else if k = 1999 then fm else if k < 2100 then fT (k - 2000) else fV (k - 2100)
/-- the law from its entry, out of the pure side -/
theorem whole_start0 {p : Program} {e : Env} {s : State} {m : MethodId} {below : List Frame} {meth : Method} {c : Code} (l : Launch) (hflags : l.flags = flags0) {b L : Nat} {xs : Nat → Int32} (hL : L ≤ 3072) (C0 : lw_At p s m meth c b L xs) (hpure : lawM L xs (0, fun _ _ => 0, fun _ _ => none, fun _ _ => 0) (fun r _ => r = .inl (some (.int 1)))) (hnt0 : ∀ x ∈ c.exceptionTable.toList, False) : W p l e room_1 s m #[Value.ref b] below meth c s.heap [] 0 0 (lw_Z below #[Value.ref b] s) (entryFrame m ([Value.ref b] : List Value).toArray 9) := by
  obtain ⟨hx, hb, hr, hml, hown, hts, hX, hbl, hlocks, hgv⟩ := id C0
  have hn : ∀ c ∈ FLT, c.before #[Value.ref b] s = true := flat_of_before _ hgv
  have hA : ∀ a : Nat, a < s.heap.size → ¬ (fun q : Nat => s.heap.size ≤ q) a := fun a h => Nat.not_le.mpr h
  have hgw : ∀ w ∈ gw, w.before #[Value.ref b] s = true := fun w h => hts w (List.mem_filter.mp h).1
  have hkn : ∀ ci : Nat, ∃ (cC : ClassId) (iS : Nat → Nat), ci < 12 → u_Kn s (clR ci) (clT ci) (clN ci) cC iS := by
    intro ci
    by_cases hci : ci < 12
    · have hin : Cond.instantiable (clR ci) (clN ci) ∈ lw_tbl := by
        match ci, hci with
        | 0, _ => exact List.mem_append_right _ (List.mem_of_getElem? (i := 301) (by decide +kernel))
        | 1, _ => exact List.mem_append_right _ (List.mem_of_getElem? (i := 380) (by decide +kernel))
        | 2, _ => exact List.mem_append_right _ (List.mem_of_getElem? (i := 456) (by decide +kernel))
        | 3, _ => exact List.mem_append_right _ (List.mem_of_getElem? (i := 147) (by decide +kernel))
        | 4, _ => exact List.mem_append_right _ (List.mem_of_getElem? (i := 412) (by decide +kernel))
        | 5, _ => exact List.mem_append_right _ (List.mem_of_getElem? (i := 167) (by decide +kernel))
        | 6, _ => exact List.mem_append_right _ (List.mem_of_getElem? (i := 71) (by decide +kernel))
        | 7, _ => exact List.mem_append_right _ (List.mem_of_getElem? (i := 33) (by decide +kernel))
        | 8, _ => exact List.mem_append_right _ (List.mem_of_getElem? (i := 177) (by decide +kernel))
        | 9, _ => exact List.mem_append_right _ (List.mem_of_getElem? (i := 50) (by decide +kernel))
        | 10, _ => exact List.mem_append_right _ (List.mem_of_getElem? (i := 25) (by decide +kernel))
        | 11, _ => exact List.mem_append_right _ (List.mem_of_getElem? (i := 1477) (by decide +kernel))
        | k + 12, h => exact absurd h (by omega)
      obtain ⟨cC, iS, h⟩ := u_known (C := clR ci) (T := clT ci) (N := clN ci) (n := clN ci) hts (fun w hw => (clT_lay0 ci hci w hw).1) (hts _ hin)
      exact ⟨cC, iS, fun _ => h⟩
    · exact ⟨0, fun _ => 0, fun h => absurd h hci⟩
  let dC : Nat → ClassId := fun ci => (hkn ci).choose
  let dI : Nat → Nat → Nat := fun ci => (hkn ci).choose_spec.choose
  have hdC : ∀ ci : Nat, ci < 12 → u_Kn s (clR ci) (clT ci) (clN ci) (dC ci) (dI ci) := fun ci h => (hkn ci).choose_spec.choose_spec h
  obtain ⟨a1, ha1, ra1⟩ := arr_known (ty := .int) (hts _ (List.mem_append_right _ (List.mem_of_getElem? (i := 48) (by decide +kernel))))
  obtain ⟨a2, ha2, ra2⟩ := arr_known (ty := .byte) (hts _ (List.mem_append_right _ (List.mem_of_getElem? (i := 273) (by decide +kernel))))
  obtain ⟨a3, ha3, ra3⟩ := arr_known (ty := .boolean) (hts _ (List.mem_append_right _ (List.mem_of_getElem? (i := 1583) (by decide +kernel))))
  obtain ⟨a4, ha4, ra4⟩ := arr_known (ty := .long) (hts _ (List.mem_append_right _ (List.mem_of_getElem? (i := 2249) (by decide +kernel))))
  obtain ⟨a5, ha5, ra5⟩ := arr_knownS (C := "SpiritWall$State") (hts _ (List.mem_append_right _ (List.mem_of_getElem? (i := 153) (by decide +kernel))))
  let aC : Nat → ClassId := fun k => if k = 1 then a1 else if k = 2 then a2 else if k = 3 then a3 else if k = 4 then a4 else a5
  obtain ⟨fT, hfT⟩ := sr_at hn
  let fV : Nat → Nat := fun i => if h : i < scN then (str_at hn hA h).choose_spec.choose else 0
  let fS : Nat → Nat := fun i => if h : i < 3 then (st_at hn hts (hts _ (List.mem_append_right _ (List.mem_of_getElem? (i := 1) (by decide +kernel)))) hA h).choose else 0
  obtain ⟨fm, hfm⟩ : ∃ fm : Nat, va_Z "jdk/internal/util/Preconditions" "SIOOBE_FORMATTER" "Ljava/util/function/BiFunction;" .null (fun q : Nat => s.heap.size ≤ q) s s.heap ∨ va_Z "jdk/internal/util/Preconditions" "SIOOBE_FORMATTER" "Ljava/util/function/BiFunction;" (.ref fm) (fun q : Nat => s.heap.size ≤ q) s s.heap := by
    have h1 : (Cond.isRef (.static "jdk/internal/util/Preconditions" "SIOOBE_FORMATTER" "Ljava/util/function/BiFunction;")).before #[Value.ref b] s = true := (hn _ (List.mem_of_getElem? (i := 12) (by decide +kernel)))
    cases hv : (Term.static "jdk/internal/util/Preconditions" "SIOOBE_FORMATTER" "Ljava/util/function/BiFunction;").eval #[Value.ref b] s none [] s with
    | none => simp [Cond.before, Cond.holds, Cond.value, hv] at h1
    | some v =>
      have hz := va_Zof (A := fun q : Nat => s.heap.size ≤ q) (hts _ (List.mem_append_right _ (List.mem_of_getElem? (i := 211) (by decide +kernel)))) (hts _ (List.mem_append_right _ (List.mem_of_getElem? (i := 10) (by decide +kernel)))) hv hA
      cases v with
      | null => exact ⟨0, Or.inl hz⟩
      | ref a => exact ⟨a, Or.inr hz⟩
      | _ => simp [Cond.before, Cond.holds, Cond.value, hv, Value.isRef] at h1
  let ad : Nat → Nat := adF s.heap.size b fS fT fV fm
  have hSta : Sta ad (fun q : Nat => s.heap.size ≤ q) s s.heap := by
    refine ⟨fun i hi => ?_, ?_, ?_, fun i hi => ?_, fun r hr => ?_, ?_, ?_, fun w hw hg => va_Nw.of (nw_onT hg) (hts w hw), va_AO.of (hts _ (List.mem_append_right _ (List.mem_of_getElem? (i := 153) (by decide +kernel)))), fun k hk => ?_⟩
    · have h1 := (st_at hn hts (hts _ (List.mem_append_right _ (List.mem_of_getElem? (i := 1) (by decide +kernel)))) hA hi).choose_spec
      have h2 : ad (1000 + i) = (st_at hn hts (hts _ (List.mem_append_right _ (List.mem_of_getElem? (i := 1) (by decide +kernel)))) hA hi).choose := by
        show adF _ _ _ _ _ _ _ = _
        unfold adF
        rw [if_neg (by omega), if_pos (by omega), Nat.add_sub_cancel_left]
        exact dif_pos hi
      rw [h2]
      exact h1
    · exact vx_Zqof (hts _ (List.mem_append_right _ (List.mem_of_getElem? (i := 1109) (by decide +kernel)))) (hts _ (List.mem_append_right _ (List.mem_of_getElem? (i := 18) (by decide +kernel)))) (hn _ (List.mem_of_getElem? (i := 30) (by decide +kernel))) hA
    · exact vx_Zqof (hts _ (List.mem_append_right _ (List.mem_of_getElem? (i := 1111) (by decide +kernel)))) (hts _ (List.mem_append_right _ (List.mem_of_getElem? (i := 18) (by decide +kernel)))) (hn _ (List.mem_of_getElem? (i := 31) (by decide +kernel))) hA
    · have hiN : i < 17 := hi
      obtain ⟨b1, b2, b3, b4, b5⟩ := (str_at hn hA hi).choose_spec.choose_spec
      have hrow : ∃ r ∈ scTab, r.1 = (scOwn.getD i ("", 0)).1 ∧ r.2.1 = (scOwn.getD i ("", 0)).2 ∧ r.2.2.2 = i := by
        have : ∀ i : Nat, i < 17 → ∃ r ∈ scTab, r.1 = (scOwn.getD i ("", 0)).1 ∧ r.2.1 = (scOwn.getD i ("", 0)).2 ∧ r.2.2.2 = i := by decide +kernel
        exact this i hiN
      obtain ⟨r, hr, e1, e2, e3⟩ := hrow
      have h3 := hfT r hr
      rw [e1, e2, e3] at h3
      have h4 : (str_at hn hA hi).choose = fT i := by
        have h5 := b1.symm.trans h3
        injection h5 with h5
        injection h5
      have h5 : ad (2000 + i) = fT i := by
        show adF _ _ _ _ _ _ _ = _
        unfold adF
        rw [if_neg (by omega), if_neg (by omega), if_neg (by omega), if_neg (by omega), if_pos (by omega), Nat.add_sub_cancel_left]
      have h6 : ad (2100 + i) = (str_at hn hA hi).choose_spec.choose := by
        show adF _ _ _ _ _ _ _ = _
        unfold adF
        rw [if_neg (by omega), if_neg (by omega), if_neg (by omega), if_neg (by omega), if_neg (by omega), Nat.add_sub_cancel_left]
        exact dif_pos hi
      rw [h5, h6, ← h4]
      exact ⟨b2, b3, b4, b5⟩
    · have h3 := hfT r hr
      have h5 : ad (2000 + r.2.2.2) = fT r.2.2.2 := by
        have h6 : r.2.2.2 < 100 := by
          have : ∀ r ∈ scTab, r.2.2.2 < 100 := by decide +kernel
          exact this r hr
        show adF _ _ _ _ _ _ _ = _
        unfold adF
        rw [if_neg (by omega), if_neg (by omega), if_neg (by omega), if_neg (by omega), if_pos (by omega), Nat.add_sub_cancel_left]
      rw [h5]
      exact vk_R.of (hts _ (sr_in r hr)) h3
    · exact va_Zof (hts _ (List.mem_append_right _ (List.mem_of_getElem? (i := 195) (by decide +kernel)))) (hts _ (List.mem_append_right _ (List.mem_of_getElem? (i := 8) (by decide +kernel)))) (va_eqi (hn _ (List.mem_of_getElem? (i := 11) (by decide +kernel)))) hA
    · rcases hfm with h | h
      · exact Or.inl h
      · refine Or.inr ?_
        have h5 : ad 1999 = fm := rfl
        rw [h5]
        exact h
    · have hk : k < 218 := hk
      show adF _ _ _ _ _ _ _ = adF _ _ _ _ _ _ _ + 1
      unfold adF
      rw [if_pos (by omega), if_pos (by omega)]
      omega
  have hl0 : l.stackTraces = false := by
    unfold Launch.stackTraces
    rw [hflags]
    decide +kernel
  have hKn : va_K (dC, dI) vwCl (tysOf aC) s := by
    refine ⟨fun ci q hq => ?_, fun k q hq => ?_⟩
    · have hci : ci < 12 := by
        have := (List.getElem?_eq_some_iff.mp hq).1
        exact this
      have := hq.symm.trans (vwCl_at hci)
      cases this
      exact hdC ci hci
    · match k, hq with
      | 0, hq => cases hq; exact ⟨ha1, ra1⟩
      | 1, hq => cases hq; exact ⟨ha2, ra2⟩
      | 2, hq => cases hq; exact ⟨ha3, ra3⟩
      | 3, hq => cases hq; exact ⟨ha4, ra4⟩
      | 4, hq => cases hq; exact ⟨ha5, ra5⟩
      | k + 5, hq => simp [tysOf] at hq
  let Γ : CT := (p, l, e, room_1, s, m, #[Value.ref b], below, meth, c, ((dC, dI), aC, ad), (fun q : Nat => s.heap.size ≤ q), 601024, 7293034)
  have hC : Ctx Γ "SpiritWallLaw" cL_law 9 (some .boolean) room_1 := ⟨hx, hb, hml, hr, hown, hgw, hlocks, hl0, hKn, fun q h => h, hSta, rfl, rfl, rfl⟩
  have hXs : Scr Γ L xs := ⟨hX, hbl, Nat.not_le.mpr hbl⟩
  have key := p_lawM hC hnt0 (nc_at hn) hXs
  have hl := lv_entry ([.ref b]) (n := 9) (Nat.le_of_ble_eq_true rfl)
  rw [lg_entry_eq]
  generalize (lg_sl ([.ref b]) ++ List.replicate (9 - (lg_sl ([.ref b])).length) Slot.unset).toArray = ls at hl ⊢
  have hl : LH (kD Γ) 9 ls [(0, .ref 1900)] := hl
  have k2 := key (fun r _ => r = .inl (some (.int 1))) (0, fun _ _ => 0, fun _ _ => none, fun _ _ => 0) s.heap [] ls hpure
    ⟨fun k q h => by simp [wld] at h, ⟨fun i j p q h => by simp [wld] at h, fun k q h => by simp [wld] at h⟩, va_S.rf, fun _ => rfl⟩ hl
  intro T hT X
  obtain ⟨t, st, o, h1, h2, h3⟩ := k2 T hT X
  refine ⟨t, st, o, h1, h2, ?_⟩
  rcases h3 with ⟨⟨⟨v, μ, rfl, hq, -⟩, -⟩, Lc, ⟨hv, hW, hs⟩, hLc⟩ | ⟨q, rfl, E, ce, Lc, ⟨⟨k, μ, -, hq, -⟩, -⟩, -⟩
  · have hq : v = some (.int 1) := by injection hq
    subst hq
    refine ⟨rfl, lw_closed (d0 := s.drawn) (Drawn.sameBut.refl s.drawn lw_cs) ⟨_, rfl⟩ hW ?_⟩
    refine ⟨hs.1, hs.2.1, hs.2.2.1, hs.2.2.2.1, hs.2.2.2.2.1, fun a cc hc => ?_⟩
    obtain ⟨c', g1, g2, g3, g4⟩ := hs.2.2.2.2.2 a cc hc
    refine ⟨c', g1, g2, g3, fun i _ => g4 i ?_⟩
    intro hmem
    have := hLc _ hmem
    exact absurd (Array.getElem?_eq_some_iff.mp hc).1 (Nat.not_lt.mpr this)
  · cases hq
