/-! SpiritWallModel.reckons()V -/
theorem dX11_reckons_0 : decode cX11_reckons 0 = .ok (.aload_n 0, 1) := by decide +kernel
theorem dX11_reckons_1 : decode cX11_reckons 1 = .ok (.invokevirtual 182, 3) := by decide +kernel
theorem dX11_reckons_4 : decode cX11_reckons 4 = .ok (.iconst 0, 1) := by decide +kernel
theorem dX11_reckons_5 : decode cX11_reckons 5 = .ok (.istore_n 1, 1) := by decide +kernel
theorem dX11_reckons_6 : decode cX11_reckons 6 = .ok (.iload_n 1, 1) := by decide +kernel
theorem dX11_reckons_7 : decode cX11_reckons 7 = .ok (.aload_n 0, 1) := by decide +kernel
theorem dX11_reckons_8 : decode cX11_reckons 8 = .ok (.invokevirtual 85, 3) := by decide +kernel
theorem dX11_reckons_11 : decode cX11_reckons 11 = .ok (.if_icmp .ge 16, 3) := by decide +kernel
theorem dX11_reckons_14 : decode cX11_reckons 14 = .ok (.aload_n 0, 1) := by decide +kernel
theorem dX11_reckons_15 : decode cX11_reckons 15 = .ok (.getfield 44, 3) := by decide +kernel
theorem dX11_reckons_18 : decode cX11_reckons 18 = .ok (.iload_n 1, 1) := by decide +kernel
theorem dX11_reckons_19 : decode cX11_reckons 19 = .ok (.iload_n 1, 1) := by decide +kernel
theorem dX11_reckons_20 : decode cX11_reckons 20 = .ok (.iastore, 1) := by decide +kernel
theorem dX11_reckons_21 : decode cX11_reckons 21 = .ok (.iinc 1 1, 3) := by decide +kernel
theorem dX11_reckons_24 : decode cX11_reckons 24 = .ok (.goto (-18), 3) := by decide +kernel
theorem dX11_reckons_27 : decode cX11_reckons 27 = .ok (.aload_n 0, 1) := by decide +kernel
theorem dX11_reckons_28 : decode cX11_reckons 28 = .ok (.invokevirtual 185, 3) := by decide +kernel
theorem dX11_reckons_31 : decode cX11_reckons 31 = .ok (.istore_n 1, 1) := by decide +kernel
theorem dX11_reckons_32 : decode cX11_reckons 32 = .ok (.iload_n 1, 1) := by decide +kernel
theorem dX11_reckons_33 : decode cX11_reckons 33 = .ok (.iconst (-1), 1) := by decide +kernel
theorem dX11_reckons_34 : decode cX11_reckons 34 = .ok (.if_icmp .eq 30, 3) := by decide +kernel
theorem dX11_reckons_37 : decode cX11_reckons 37 = .ok (.aload_n 0, 1) := by decide +kernel
theorem dX11_reckons_38 : decode cX11_reckons 38 = .ok (.getfield 40, 3) := by decide +kernel
theorem dX11_reckons_41 : decode cX11_reckons 41 = .ok (.iload_n 1, 1) := by decide +kernel
theorem dX11_reckons_42 : decode cX11_reckons 42 = .ok (.iconst 1, 1) := by decide +kernel
theorem dX11_reckons_43 : decode cX11_reckons 43 = .ok (.bastore, 1) := by decide +kernel
theorem dX11_reckons_44 : decode cX11_reckons 44 = .ok (.aload_n 0, 1) := by decide +kernel
theorem dX11_reckons_45 : decode cX11_reckons 45 = .ok (.iload_n 1, 1) := by decide +kernel
theorem dX11_reckons_46 : decode cX11_reckons 46 = .ok (.bipush 12, 2) := by decide +kernel
theorem dX11_reckons_48 : decode cX11_reckons 48 = .ok (.idiv, 1) := by decide +kernel
theorem dX11_reckons_49 : decode cX11_reckons 49 = .ok (.iload_n 1, 1) := by decide +kernel
theorem dX11_reckons_50 : decode cX11_reckons 50 = .ok (.bipush 12, 2) := by decide +kernel
theorem dX11_reckons_52 : decode cX11_reckons 52 = .ok (.irem, 1) := by decide +kernel
theorem dX11_reckons_53 : decode cX11_reckons 53 = .ok (.invokevirtual 188, 3) := by decide +kernel
theorem dX11_reckons_56 : decode cX11_reckons 56 = .ok (.aload_n 0, 1) := by decide +kernel
theorem dX11_reckons_57 : decode cX11_reckons 57 = .ok (.invokevirtual 185, 3) := by decide +kernel
theorem dX11_reckons_60 : decode cX11_reckons 60 = .ok (.istore_n 1, 1) := by decide +kernel
theorem dX11_reckons_61 : decode cX11_reckons 61 = .ok (.goto (-29), 3) := by decide +kernel
theorem dX11_reckons_64 : decode cX11_reckons 64 = .ok (.return_, 1) := by decide +kernel
def rmX11_reckons : Room := rmk 14 0 0 336
theorem nX11_reckons : nameOk yX11_reckons 0 = true := by decide +kernel
def bX11_reckons_0 (J : JT) : List Value → Sem
  | [.ref x0] =>
    ob 11 x0 (cV SX11_findEdges [.ref x0] <|
    J 1 [.ref x0, .int 0])
  | _ => no
def bX11_reckons_1 (J : JT) : List Value → Sem
  | [.ref x0, .int x1] =>
    ob 11 x0 (cI SX11_marks [.ref x0] fun v1 =>
    br (v1 ≤ x1)
    (ob 11 x0 (cI SX11_nextEdge [.ref x0] fun v2 =>
    J 2 [.ref x0, .int v2]))
    (gR 11 15 x0 fun r3 =>
    sA r3 x1 x1 <|
    J 1 [.ref x0, .int (x1 + 1)]))
  | _ => no
def bX11_reckons_2 (J : JT) : List Value → Sem
  | [.ref x0, .int x1] =>
    br (x1 = ((-1) : Int32))
    (rV)
    (gR 11 14 x0 fun r1 =>
    sB r1 x1 1 <|
    nz 12 <|
    nz 12 <|
    ob 11 x0 (cV SX11_joins [.ref x0, .int (x1 / 12), .int (x1 - x1 / 12 * 12)] <|
    ob 11 x0 (cI SX11_nextEdge [.ref x0] fun v2 =>
    J 2 [.ref x0, .int v2])))
  | _ => no
def bX11_reckons (J : JT) : JT := fun L a => match L with
  | 0 => bX11_reckons_0 J a
  | 1 => bX11_reckons_1 J a
  | 2 => bX11_reckons_2 J a
  | _ => no
def SX11_reckons : ST := mk 2 bX11_reckons
def lX11_reckons (L : Nat) (a : List Value) : Nat × Nat × Nat × List (Nat × Value) × List Value := match L with
  | 0 => (0, 0, 0, lv_args 0 a, [])
  | 1 => (0, 0, 6, List.zip [0, 1] a, [])
  | 2 => (0, 0, 32, List.zip [0, 1] a, [])
  | _ => (0, 0, 0, [], [])
theorem pX11_reckons_0 {Γ : CT} (hC : Ctx Γ "SpiritWallModel" cX11_reckons 2 none rmX11_reckons) (hnt : NT Γ) (J : JT) (hJ : ∀ L a, Cor Γ 2 (lX11_reckons L a).1 (lX11_reckons L a).2.1 (lX11_reckons L a).2.2.1 (lX11_reckons L a).2.2.2.1 (lX11_reckons L a).2.2.2.2 (J L a)) (a : List Value) : Cor Γ 2 0 0 0 (lv_args 0 a) [] (bX11_reckons_0 J a) := by
  unfold bX11_reckons_0
  split
  · rename_i x0
    refine c_sub [0] rfl (loc' := [(0, .ref x0)]) ?_
    refine q_aload_n hC 0 dX11_reckons_0 rfl rfl ?_
    refine q_cVV hC hnt (stk := []) (as := []) sX11_findEdges (ci := 11) (by decide) rfl nX11_findEdges rfl w_942 w_944 w_945 w_830 w_943 (Nat.le_of_ble_eq_true rfl) dX11_reckons_1 rfl ?_
    refine q_iconst hC dX11_reckons_4 rfl ?_
    refine q_istore_nA hC (loc' := [(1, .int 0), (0, .ref x0)]) dX11_reckons_5 rfl (Nat.le_of_ble_eq_true rfl) rfl ?_
    exact c_sub [1, 0] rfl (hJ 1 [.ref x0, .int 0])
  · exact c_no
theorem pX11_reckons_1 {Γ : CT} (hC : Ctx Γ "SpiritWallModel" cX11_reckons 2 none rmX11_reckons) (hnt : NT Γ) (J : JT) (hJ : ∀ L a, Cor Γ 2 (lX11_reckons L a).1 (lX11_reckons L a).2.1 (lX11_reckons L a).2.2.1 (lX11_reckons L a).2.2.2.1 (lX11_reckons L a).2.2.2.2 (J L a)) (a : List Value) : Cor Γ 2 0 0 6 (List.zip [0, 1] a) [] (bX11_reckons_1 J a) := by
  unfold bX11_reckons_1
  split
  · rename_i x0 x1
    refine c_sub [0, 1] rfl (loc' := [(0, .ref x0), (1, .int x1)]) ?_
    refine q_iload_n hC 1 dX11_reckons_6 rfl rfl ?_
    refine q_aload_n hC 0 dX11_reckons_7 rfl rfl ?_
    refine q_cVI hC hnt (stk := [.int x1]) (as := []) sX11_marks (ci := 11) (by decide) rfl nX11_marks rfl w_843 w_845 w_846 w_830 w_844 (Nat.le_of_ble_eq_true rfl) dX11_reckons_8 rfl (fun v1 => ?_)
    refine q_ic_ge hC 27 dX11_reckons_11 rfl ?_ ?_
    · refine q_aload_n hC 0 dX11_reckons_27 rfl rfl ?_
      refine q_cVI hC hnt (stk := []) (as := []) sX11_nextEdge (ci := 11) (by decide) rfl nX11_nextEdge rfl w_946 w_948 w_949 w_830 w_947 (Nat.le_of_ble_eq_true rfl) dX11_reckons_28 rfl (fun v2 => ?_)
      refine q_istore_nA hC (loc' := [(1, .int v2), (0, .ref x0)]) dX11_reckons_31 rfl (Nat.le_of_ble_eq_true rfl) rfl ?_
      exact c_sub [1, 0] rfl (hJ 2 [.ref x0, .int v2])
    · refine q_aload_n hC 0 dX11_reckons_14 rfl rfl ?_
      refine q_getR hC (by decide) (by decide) rfl w_820 dX11_reckons_15 (fun r3 => ?_)
      refine q_iload_n hC 1 dX11_reckons_18 rfl rfl ?_
      refine q_iload_n hC 1 dX11_reckons_19 rfl rfl ?_
      refine q_iast hC dX11_reckons_20 ?_
      refine q_iincA hC (loc' := [(1, .int (x1 + 1)), (0, .ref x0)]) 1 1 dX11_reckons_21 rfl rfl (Nat.le_of_ble_eq_true rfl) rfl ?_
      refine q_goto hC 6 dX11_reckons_24 rfl ?_
      exact c_sub [1, 0] rfl (hJ 1 [.ref x0, .int (x1 + 1)])
  · exact c_no
theorem pX11_reckons_2 {Γ : CT} (hC : Ctx Γ "SpiritWallModel" cX11_reckons 2 none rmX11_reckons) (hnt : NT Γ) (J : JT) (hJ : ∀ L a, Cor Γ 2 (lX11_reckons L a).1 (lX11_reckons L a).2.1 (lX11_reckons L a).2.2.1 (lX11_reckons L a).2.2.2.1 (lX11_reckons L a).2.2.2.2 (J L a)) (a : List Value) : Cor Γ 2 0 0 32 (List.zip [0, 1] a) [] (bX11_reckons_2 J a) := by
  unfold bX11_reckons_2
  split
  · rename_i x0 x1
    refine c_sub [0, 1] rfl (loc' := [(0, .ref x0), (1, .int x1)]) ?_
    refine q_iload_n hC 1 dX11_reckons_32 rfl rfl ?_
    refine q_iconst hC dX11_reckons_33 rfl ?_
    refine q_ic_eq hC 64 dX11_reckons_34 rfl ?_ ?_
    · exact q_vret hC dX11_reckons_64 (Nat.le_of_ble_eq_true rfl) (Nat.le_of_ble_eq_true rfl)
    · refine q_aload_n hC 0 dX11_reckons_37 rfl rfl ?_
      refine q_getR hC (by decide) (by decide) rfl w_819 dX11_reckons_38 (fun r1 => ?_)
      refine q_iload_n hC 1 dX11_reckons_41 rfl rfl ?_
      refine q_iconst hC dX11_reckons_42 rfl ?_
      refine q_bast hC dX11_reckons_43 ?_
      refine q_aload_n hC 0 dX11_reckons_44 rfl rfl ?_
      refine q_iload_n hC 1 dX11_reckons_45 rfl rfl ?_
      refine q_bipush hC (v := 12) dX11_reckons_46 rfl ?_
      refine q_idiv hC dX11_reckons_48 ?_
      refine q_iload_n hC 1 dX11_reckons_49 rfl rfl ?_
      refine q_bipush hC (v := 12) dX11_reckons_50 rfl ?_
      refine q_irem hC dX11_reckons_52 ?_
      refine q_cVV hC hnt (stk := []) (as := [.int (x1 / 12), .int (x1 - x1 / 12 * 12)]) sX11_joins (ci := 11) (by decide) rfl nX11_joins rfl w_950 w_952 w_953 w_830 w_951 (Nat.le_of_ble_eq_true rfl) dX11_reckons_53 rfl ?_
      refine q_aload_n hC 0 dX11_reckons_56 rfl rfl ?_
      refine q_cVI hC hnt (stk := []) (as := []) sX11_nextEdge (ci := 11) (by decide) rfl nX11_nextEdge rfl w_946 w_948 w_949 w_830 w_947 (Nat.le_of_ble_eq_true rfl) dX11_reckons_57 rfl (fun v2 => ?_)
      refine q_istore_nA hC (loc' := [(1, .int v2), (0, .ref x0)]) dX11_reckons_60 rfl (Nat.le_of_ble_eq_true rfl) rfl ?_
      refine q_goto hC 32 dX11_reckons_61 rfl ?_
      exact c_sub [1, 0] rfl (hJ 2 [.ref x0, .int v2])
  · exact c_no
theorem sX11_reckons : Snd yX11_reckons (.code yX11_reckons cX11_reckons 2 none) rmX11_reckons SX11_reckons := by
  refine Snd.of lX11_reckons (by decide +kernel) (fun _ => rfl) ?_
  intro Γ hC hnt hnm J hJ L a
  match L with
  | 0 => exact pX11_reckons_0 hC hnt J hJ a
  | 1 => exact pX11_reckons_1 hC hnt J hJ a
  | 2 => exact pX11_reckons_2 hC hnt J hJ a
  | L + 3 => exact c_no
/-! SpiritWallModel.edges()I -/
theorem dX11_edges_0 : decode cX11_edges 0 = .ok (.iconst 0, 1) := by decide +kernel
theorem dX11_edges_1 : decode cX11_edges 1 = .ok (.istore_n 1, 1) := by decide +kernel
theorem dX11_edges_2 : decode cX11_edges 2 = .ok (.iconst 0, 1) := by decide +kernel
theorem dX11_edges_3 : decode cX11_edges 3 = .ok (.istore_n 2, 1) := by decide +kernel
theorem dX11_edges_4 : decode cX11_edges 4 = .ok (.iload_n 2, 1) := by decide +kernel
theorem dX11_edges_5 : decode cX11_edges 5 = .ok (.sipush 144, 3) := by decide +kernel
theorem dX11_edges_8 : decode cX11_edges 8 = .ok (.if_icmp .ge 22, 3) := by decide +kernel
theorem dX11_edges_11 : decode cX11_edges 11 = .ok (.aload_n 0, 1) := by decide +kernel
theorem dX11_edges_12 : decode cX11_edges 12 = .ok (.getfield 31, 3) := by decide +kernel
theorem dX11_edges_15 : decode cX11_edges 15 = .ok (.iload_n 2, 1) := by decide +kernel
theorem dX11_edges_16 : decode cX11_edges 16 = .ok (.iaload, 1) := by decide +kernel
theorem dX11_edges_17 : decode cX11_edges 17 = .ok (.ifCond .le 7, 3) := by decide +kernel
theorem dX11_edges_20 : decode cX11_edges 20 = .ok (.iload_n 1, 1) := by decide +kernel
theorem dX11_edges_21 : decode cX11_edges 21 = .ok (.iconst 1, 1) := by decide +kernel
theorem dX11_edges_22 : decode cX11_edges 22 = .ok (.iadd, 1) := by decide +kernel
theorem dX11_edges_23 : decode cX11_edges 23 = .ok (.istore_n 1, 1) := by decide +kernel
theorem dX11_edges_24 : decode cX11_edges 24 = .ok (.iinc 2 1, 3) := by decide +kernel
theorem dX11_edges_27 : decode cX11_edges 27 = .ok (.goto (-23), 3) := by decide +kernel
theorem dX11_edges_30 : decode cX11_edges 30 = .ok (.iload_n 1, 1) := by decide +kernel
theorem dX11_edges_31 : decode cX11_edges 31 = .ok (.ireturn, 1) := by decide +kernel
def rmX11_edges : Room := rmk 6 0 0 150
theorem nX11_edges : nameOk yX11_edges 0 = true := by decide +kernel
def bX11_edges_0 (J : JT) : List Value → Sem
  | [.ref x0] =>
    J 1 [.ref x0, .int 0, .int 0]
  | _ => no
def bX11_edges_1 (J : JT) : List Value → Sem
  | [.ref x0, .int x1, .int x2] =>
    br ((144 : Int32) ≤ x2)
    (rI x1)
    (gR 11 11 x0 fun r1 =>
    aI r1 x2 fun v2 =>
    br (v2 ≤ 0)
    (J 1 [.ref x0, .int x1, .int (x2 + 1)])
    (lI (x1 + 1) fun y1_3 =>
    J 1 [.ref x0, .int y1_3, .int (x2 + 1)]))
  | _ => no
def bX11_edges (J : JT) : JT := fun L a => match L with
  | 0 => bX11_edges_0 J a
  | 1 => bX11_edges_1 J a
  | _ => no
def SX11_edges : ST := mk 3 bX11_edges
def lX11_edges (L : Nat) (a : List Value) : Nat × Nat × Nat × List (Nat × Value) × List Value := match L with
  | 0 => (0, 0, 0, lv_args 0 a, [])
  | 1 => (0, 0, 4, List.zip [0, 1, 2] a, [])
  | _ => (0, 0, 0, [], [])
theorem pX11_edges_0 {Γ : CT} (hC : Ctx Γ "SpiritWallModel" cX11_edges 3 (some .int) rmX11_edges) (hnt : NT Γ) (J : JT) (hJ : ∀ L a, Cor Γ 3 (lX11_edges L a).1 (lX11_edges L a).2.1 (lX11_edges L a).2.2.1 (lX11_edges L a).2.2.2.1 (lX11_edges L a).2.2.2.2 (J L a)) (a : List Value) : Cor Γ 3 0 0 0 (lv_args 0 a) [] (bX11_edges_0 J a) := by
  unfold bX11_edges_0
  split
  · rename_i x0
    refine c_sub [0] rfl (loc' := [(0, .ref x0)]) ?_
    refine q_iconst hC dX11_edges_0 rfl ?_
    refine q_istore_nA hC (loc' := [(1, .int 0), (0, .ref x0)]) dX11_edges_1 rfl (Nat.le_of_ble_eq_true rfl) rfl ?_
    refine q_iconst hC dX11_edges_2 rfl ?_
    refine q_istore_nA hC (loc' := [(2, .int 0), (1, .int 0), (0, .ref x0)]) dX11_edges_3 rfl (Nat.le_of_ble_eq_true rfl) rfl ?_
    exact c_sub [2, 1, 0] rfl (hJ 1 [.ref x0, .int 0, .int 0])
  · exact c_no
theorem pX11_edges_1 {Γ : CT} (hC : Ctx Γ "SpiritWallModel" cX11_edges 3 (some .int) rmX11_edges) (hnt : NT Γ) (J : JT) (hJ : ∀ L a, Cor Γ 3 (lX11_edges L a).1 (lX11_edges L a).2.1 (lX11_edges L a).2.2.1 (lX11_edges L a).2.2.2.1 (lX11_edges L a).2.2.2.2 (J L a)) (a : List Value) : Cor Γ 3 0 0 4 (List.zip [0, 1, 2] a) [] (bX11_edges_1 J a) := by
  unfold bX11_edges_1
  split
  · rename_i x0 x1 x2
    refine c_sub [0, 1, 2] rfl (loc' := [(0, .ref x0), (1, .int x1), (2, .int x2)]) ?_
    refine q_iload_n hC 2 dX11_edges_4 rfl rfl ?_
    refine q_sipush hC (v := 144) dX11_edges_5 rfl ?_
    refine q_ic_ge hC 30 dX11_edges_8 rfl ?_ ?_
    · refine q_iload_n hC 1 dX11_edges_30 rfl rfl ?_
      exact q_iret hC dX11_edges_31 (Nat.le_of_ble_eq_true rfl) (Nat.le_of_ble_eq_true rfl)
    · refine q_aload_n hC 0 dX11_edges_11 rfl rfl ?_
      refine q_getR hC (by decide) (by decide) rfl w_816 dX11_edges_12 (fun r1 => ?_)
      refine q_iload_n hC 2 dX11_edges_15 rfl rfl ?_
      refine q_iald hC dX11_edges_16 (fun v2 => ?_)
      refine q_if_le hC 24 dX11_edges_17 rfl ?_ ?_
      · refine q_iincA hC (loc' := [(2, .int (x2 + 1)), (0, .ref x0), (1, .int x1)]) 2 1 dX11_edges_24 rfl rfl (Nat.le_of_ble_eq_true rfl) rfl ?_
        refine q_goto hC 4 dX11_edges_27 rfl ?_
        exact c_sub [1, 2, 0] rfl (hJ 1 [.ref x0, .int x1, .int (x2 + 1)])
      · refine q_iload_n hC 1 dX11_edges_20 rfl rfl ?_
        refine q_iconst hC dX11_edges_21 rfl ?_
        refine q_iadd hC dX11_edges_22 ?_
        refine q_istore_n hC (fun y1_3 => [(1, .int y1_3), (0, .ref x0), (2, .int x2)]) dX11_edges_23 rfl (Nat.le_of_ble_eq_true rfl) (fun _ => rfl) (fun y1_3 => ?_)
        refine q_iincA hC (loc' := [(2, .int (x2 + 1)), (1, .int y1_3), (0, .ref x0)]) 2 1 dX11_edges_24 rfl rfl (Nat.le_of_ble_eq_true rfl) rfl ?_
        refine q_goto hC 4 dX11_edges_27 rfl ?_
        exact c_sub [2, 1, 0] rfl (hJ 1 [.ref x0, .int y1_3, .int (x2 + 1)])
  · exact c_no
theorem sX11_edges : Snd yX11_edges (.code yX11_edges cX11_edges 3 (some .int)) rmX11_edges SX11_edges := by
  refine Snd.of lX11_edges (by decide +kernel) (fun _ => rfl) ?_
  intro Γ hC hnt hnm J hJ L a
  match L with
  | 0 => exact pX11_edges_0 hC hnt J hJ a
  | 1 => exact pX11_edges_1 hC hnt J hJ a
  | L + 2 => exact c_no
/-! SpiritWallModel.takenEdges()I -/
theorem dX11_takenEdges_0 : decode cX11_takenEdges 0 = .ok (.iconst 0, 1) := by decide +kernel
theorem dX11_takenEdges_1 : decode cX11_takenEdges 1 = .ok (.istore_n 1, 1) := by decide +kernel
theorem dX11_takenEdges_2 : decode cX11_takenEdges 2 = .ok (.iconst 0, 1) := by decide +kernel
theorem dX11_takenEdges_3 : decode cX11_takenEdges 3 = .ok (.istore_n 2, 1) := by decide +kernel
theorem dX11_takenEdges_4 : decode cX11_takenEdges 4 = .ok (.iload_n 2, 1) := by decide +kernel
theorem dX11_takenEdges_5 : decode cX11_takenEdges 5 = .ok (.sipush 144, 3) := by decide +kernel
theorem dX11_takenEdges_8 : decode cX11_takenEdges 8 = .ok (.if_icmp .ge 22, 3) := by decide +kernel
theorem dX11_takenEdges_11 : decode cX11_takenEdges 11 = .ok (.aload_n 0, 1) := by decide +kernel
theorem dX11_takenEdges_12 : decode cX11_takenEdges 12 = .ok (.getfield 40, 3) := by decide +kernel
theorem dX11_takenEdges_15 : decode cX11_takenEdges 15 = .ok (.iload_n 2, 1) := by decide +kernel
theorem dX11_takenEdges_16 : decode cX11_takenEdges 16 = .ok (.baload, 1) := by decide +kernel
theorem dX11_takenEdges_17 : decode cX11_takenEdges 17 = .ok (.ifCond .eq 7, 3) := by decide +kernel
theorem dX11_takenEdges_20 : decode cX11_takenEdges 20 = .ok (.iload_n 1, 1) := by decide +kernel
theorem dX11_takenEdges_21 : decode cX11_takenEdges 21 = .ok (.iconst 1, 1) := by decide +kernel
theorem dX11_takenEdges_22 : decode cX11_takenEdges 22 = .ok (.iadd, 1) := by decide +kernel
theorem dX11_takenEdges_23 : decode cX11_takenEdges 23 = .ok (.istore_n 1, 1) := by decide +kernel
theorem dX11_takenEdges_24 : decode cX11_takenEdges 24 = .ok (.iinc 2 1, 3) := by decide +kernel
theorem dX11_takenEdges_27 : decode cX11_takenEdges 27 = .ok (.goto (-23), 3) := by decide +kernel
theorem dX11_takenEdges_30 : decode cX11_takenEdges 30 = .ok (.iload_n 1, 1) := by decide +kernel
theorem dX11_takenEdges_31 : decode cX11_takenEdges 31 = .ok (.ireturn, 1) := by decide +kernel
def rmX11_takenEdges : Room := rmk 6 0 0 150
theorem nX11_takenEdges : nameOk yX11_takenEdges 0 = true := by decide +kernel
def bX11_takenEdges_0 (J : JT) : List Value → Sem
  | [.ref x0] =>
    J 1 [.ref x0, .int 0, .int 0]
  | _ => no
def bX11_takenEdges_1 (J : JT) : List Value → Sem
  | [.ref x0, .int x1, .int x2] =>
    br ((144 : Int32) ≤ x2)
    (rI x1)
    (gR 11 14 x0 fun r1 =>
    aB r1 x2 fun v2 =>
    br (v2 = 0)
    (J 1 [.ref x0, .int x1, .int (x2 + 1)])
    (lI (x1 + 1) fun y1_3 =>
    J 1 [.ref x0, .int y1_3, .int (x2 + 1)]))
  | _ => no
def bX11_takenEdges (J : JT) : JT := fun L a => match L with
  | 0 => bX11_takenEdges_0 J a
  | 1 => bX11_takenEdges_1 J a
  | _ => no
def SX11_takenEdges : ST := mk 3 bX11_takenEdges
def lX11_takenEdges (L : Nat) (a : List Value) : Nat × Nat × Nat × List (Nat × Value) × List Value := match L with
  | 0 => (0, 0, 0, lv_args 0 a, [])
  | 1 => (0, 0, 4, List.zip [0, 1, 2] a, [])
  | _ => (0, 0, 0, [], [])
theorem pX11_takenEdges_0 {Γ : CT} (hC : Ctx Γ "SpiritWallModel" cX11_takenEdges 3 (some .int) rmX11_takenEdges) (hnt : NT Γ) (J : JT) (hJ : ∀ L a, Cor Γ 3 (lX11_takenEdges L a).1 (lX11_takenEdges L a).2.1 (lX11_takenEdges L a).2.2.1 (lX11_takenEdges L a).2.2.2.1 (lX11_takenEdges L a).2.2.2.2 (J L a)) (a : List Value) : Cor Γ 3 0 0 0 (lv_args 0 a) [] (bX11_takenEdges_0 J a) := by
  unfold bX11_takenEdges_0
  split
  · rename_i x0
    refine c_sub [0] rfl (loc' := [(0, .ref x0)]) ?_
    refine q_iconst hC dX11_takenEdges_0 rfl ?_
    refine q_istore_nA hC (loc' := [(1, .int 0), (0, .ref x0)]) dX11_takenEdges_1 rfl (Nat.le_of_ble_eq_true rfl) rfl ?_
    refine q_iconst hC dX11_takenEdges_2 rfl ?_
    refine q_istore_nA hC (loc' := [(2, .int 0), (1, .int 0), (0, .ref x0)]) dX11_takenEdges_3 rfl (Nat.le_of_ble_eq_true rfl) rfl ?_
    exact c_sub [2, 1, 0] rfl (hJ 1 [.ref x0, .int 0, .int 0])
  · exact c_no
theorem pX11_takenEdges_1 {Γ : CT} (hC : Ctx Γ "SpiritWallModel" cX11_takenEdges 3 (some .int) rmX11_takenEdges) (hnt : NT Γ) (J : JT) (hJ : ∀ L a, Cor Γ 3 (lX11_takenEdges L a).1 (lX11_takenEdges L a).2.1 (lX11_takenEdges L a).2.2.1 (lX11_takenEdges L a).2.2.2.1 (lX11_takenEdges L a).2.2.2.2 (J L a)) (a : List Value) : Cor Γ 3 0 0 4 (List.zip [0, 1, 2] a) [] (bX11_takenEdges_1 J a) := by
  unfold bX11_takenEdges_1
  split
  · rename_i x0 x1 x2
    refine c_sub [0, 1, 2] rfl (loc' := [(0, .ref x0), (1, .int x1), (2, .int x2)]) ?_
    refine q_iload_n hC 2 dX11_takenEdges_4 rfl rfl ?_
    refine q_sipush hC (v := 144) dX11_takenEdges_5 rfl ?_
    refine q_ic_ge hC 30 dX11_takenEdges_8 rfl ?_ ?_
    · refine q_iload_n hC 1 dX11_takenEdges_30 rfl rfl ?_
      exact q_iret hC dX11_takenEdges_31 (Nat.le_of_ble_eq_true rfl) (Nat.le_of_ble_eq_true rfl)
    · refine q_aload_n hC 0 dX11_takenEdges_11 rfl rfl ?_
      refine q_getR hC (by decide) (by decide) rfl w_819 dX11_takenEdges_12 (fun r1 => ?_)
      refine q_iload_n hC 2 dX11_takenEdges_15 rfl rfl ?_
      refine q_bald hC dX11_takenEdges_16 (fun v2 => ?_)
      refine q_if_eq hC 24 dX11_takenEdges_17 rfl ?_ ?_
      · refine q_iincA hC (loc' := [(2, .int (x2 + 1)), (0, .ref x0), (1, .int x1)]) 2 1 dX11_takenEdges_24 rfl rfl (Nat.le_of_ble_eq_true rfl) rfl ?_
        refine q_goto hC 4 dX11_takenEdges_27 rfl ?_
        exact c_sub [1, 2, 0] rfl (hJ 1 [.ref x0, .int x1, .int (x2 + 1)])
      · refine q_iload_n hC 1 dX11_takenEdges_20 rfl rfl ?_
        refine q_iconst hC dX11_takenEdges_21 rfl ?_
        refine q_iadd hC dX11_takenEdges_22 ?_
        refine q_istore_n hC (fun y1_3 => [(1, .int y1_3), (0, .ref x0), (2, .int x2)]) dX11_takenEdges_23 rfl (Nat.le_of_ble_eq_true rfl) (fun _ => rfl) (fun y1_3 => ?_)
        refine q_iincA hC (loc' := [(2, .int (x2 + 1)), (1, .int y1_3), (0, .ref x0)]) 2 1 dX11_takenEdges_24 rfl rfl (Nat.le_of_ble_eq_true rfl) rfl ?_
        refine q_goto hC 4 dX11_takenEdges_27 rfl ?_
        exact c_sub [2, 1, 0] rfl (hJ 1 [.ref x0, .int y1_3, .int (x2 + 1)])
  · exact c_no
theorem sX11_takenEdges : Snd yX11_takenEdges (.code yX11_takenEdges cX11_takenEdges 3 (some .int)) rmX11_takenEdges SX11_takenEdges := by
  refine Snd.of lX11_takenEdges (by decide +kernel) (fun _ => rfl) ?_
  intro Γ hC hnt hnm J hJ L a
  match L with
  | 0 => exact pX11_takenEdges_0 hC hnt J hJ a
  | 1 => exact pX11_takenEdges_1 hC hnt J hJ a
  | L + 2 => exact c_no
theorem roomOk_of {rm' rm : Room} {maxL cn sn : Nat} (h : rm'.frames + 1 ≤ rm.frames ∧ 8 + (maxL + 11) + rm'.locals ≤ rm.locals ∧ cn + rm'.cells ≤ rm.cells ∧ sn + rm'.slots ≤ rm.slots) : roomOk rm' rm maxL cn sn = true := by
  simp only [roomOk, Bool.and_eq_true, decide_eq_true_eq]
  exact ⟨⟨⟨h.1, h.2.1⟩, h.2.2.1⟩, h.2.2.2⟩
/-! SpiritWallModel.walks(III)Z -/
theorem dX11_walks_0 : decode cX11_walks 0 = .ok (.aload_n 0, 1) := by decide +kernel
theorem dX11_walks_1 : decode cX11_walks 1 = .ok (.getfield 47, 3) := by decide +kernel
theorem dX11_walks_4 : decode cX11_walks 4 = .ok (.aload_n 0, 1) := by decide +kernel
theorem dX11_walks_5 : decode cX11_walks 5 = .ok (.getfield 192, 3) := by decide +kernel
theorem dX11_walks_8 : decode cX11_walks 8 = .ok (.iload_n 1, 1) := by decide +kernel
theorem dX11_walks_9 : decode cX11_walks 9 = .ok (.iastore, 1) := by decide +kernel
theorem dX11_walks_10 : decode cX11_walks 10 = .ok (.aload_n 0, 1) := by decide +kernel
theorem dX11_walks_11 : decode cX11_walks 11 = .ok (.aload_n 0, 1) := by decide +kernel
theorem dX11_walks_12 : decode cX11_walks 12 = .ok (.getfield 192, 3) := by decide +kernel
theorem dX11_walks_15 : decode cX11_walks 15 = .ok (.iconst 1, 1) := by decide +kernel
theorem dX11_walks_16 : decode cX11_walks 16 = .ok (.iadd, 1) := by decide +kernel
theorem dX11_walks_17 : decode cX11_walks 17 = .ok (.putfield 192, 3) := by decide +kernel
theorem dX11_walks_20 : decode cX11_walks 20 = .ok (.iload_n 1, 1) := by decide +kernel
theorem dX11_walks_21 : decode cX11_walks 21 = .ok (.iload_n 2, 1) := by decide +kernel
theorem dX11_walks_22 : decode cX11_walks 22 = .ok (.if_icmp .ne 5, 3) := by decide +kernel
theorem dX11_walks_25 : decode cX11_walks 25 = .ok (.iconst 1, 1) := by decide +kernel
theorem dX11_walks_26 : decode cX11_walks 26 = .ok (.ireturn, 1) := by decide +kernel
theorem dX11_walks_27 : decode cX11_walks 27 = .ok (.iconst 0, 1) := by decide +kernel
theorem dX11_walks_28 : decode cX11_walks 28 = .ok (.istore 4, 2) := by decide +kernel
theorem dX11_walks_30 : decode cX11_walks 30 = .ok (.iload 4, 2) := by decide +kernel
theorem dX11_walks_32 : decode cX11_walks 32 = .ok (.aload_n 0, 1) := by decide +kernel
theorem dX11_walks_33 : decode cX11_walks 33 = .ok (.invokevirtual 85, 3) := by decide +kernel
theorem dX11_walks_36 : decode cX11_walks 36 = .ok (.if_icmp .ge 48, 3) := by decide +kernel
theorem dX11_walks_39 : decode cX11_walks 39 = .ok (.iload 4, 2) := by decide +kernel
theorem dX11_walks_41 : decode cX11_walks 41 = .ok (.iload_n 3, 1) := by decide +kernel
theorem dX11_walks_42 : decode cX11_walks 42 = .ok (.if_icmp .eq 36, 3) := by decide +kernel
theorem dX11_walks_45 : decode cX11_walks 45 = .ok (.iload 4, 2) := by decide +kernel
theorem dX11_walks_47 : decode cX11_walks 47 = .ok (.iload_n 1, 1) := by decide +kernel
theorem dX11_walks_48 : decode cX11_walks 48 = .ok (.if_icmp .eq 30, 3) := by decide +kernel
theorem dX11_walks_51 : decode cX11_walks 51 = .ok (.aload_n 0, 1) := by decide +kernel
theorem dX11_walks_52 : decode cX11_walks 52 = .ok (.getfield 40, 3) := by decide +kernel
theorem dX11_walks_55 : decode cX11_walks 55 = .ok (.iload_n 1, 1) := by decide +kernel
theorem dX11_walks_56 : decode cX11_walks 56 = .ok (.iload 4, 2) := by decide +kernel
theorem dX11_walks_58 : decode cX11_walks 58 = .ok (.invokestatic 133, 3) := by decide +kernel
theorem dX11_walks_61 : decode cX11_walks 61 = .ok (.baload, 1) := by decide +kernel
theorem dX11_walks_62 : decode cX11_walks 62 = .ok (.ifCond .eq 16, 3) := by decide +kernel
theorem dX11_walks_65 : decode cX11_walks 65 = .ok (.aload_n 0, 1) := by decide +kernel
theorem dX11_walks_66 : decode cX11_walks 66 = .ok (.iload 4, 2) := by decide +kernel
theorem dX11_walks_68 : decode cX11_walks 68 = .ok (.iload_n 2, 1) := by decide +kernel
theorem dX11_walks_69 : decode cX11_walks 69 = .ok (.iload_n 1, 1) := by decide +kernel
theorem dX11_walks_70 : decode cX11_walks 70 = .ok (.invokevirtual 195, 3) := by decide +kernel
theorem dX11_walks_73 : decode cX11_walks 73 = .ok (.ifCond .eq 5, 3) := by decide +kernel
theorem dX11_walks_76 : decode cX11_walks 76 = .ok (.iconst 1, 1) := by decide +kernel
theorem dX11_walks_77 : decode cX11_walks 77 = .ok (.ireturn, 1) := by decide +kernel
theorem dX11_walks_78 : decode cX11_walks 78 = .ok (.iinc 4 1, 3) := by decide +kernel
theorem dX11_walks_81 : decode cX11_walks 81 = .ok (.goto (-51), 3) := by decide +kernel
theorem dX11_walks_84 : decode cX11_walks 84 = .ok (.aload_n 0, 1) := by decide +kernel
theorem dX11_walks_85 : decode cX11_walks 85 = .ok (.aload_n 0, 1) := by decide +kernel
theorem dX11_walks_86 : decode cX11_walks 86 = .ok (.getfield 192, 3) := by decide +kernel
theorem dX11_walks_89 : decode cX11_walks 89 = .ok (.iconst 1, 1) := by decide +kernel
theorem dX11_walks_90 : decode cX11_walks 90 = .ok (.isub, 1) := by decide +kernel
theorem dX11_walks_91 : decode cX11_walks 91 = .ok (.putfield 192, 3) := by decide +kernel
theorem dX11_walks_94 : decode cX11_walks 94 = .ok (.iconst 0, 1) := by decide +kernel
theorem dX11_walks_95 : decode cX11_walks 95 = .ok (.ireturn, 1) := by decide +kernel
def rmX11_walks (d : Nat) : Room := rmk (7 + d) 0 0 (171 + d * 24)
theorem nX11_walks : nameOk yX11_walks 3 = true := by decide +kernel
def bX11_walks_0 (S : ST) (J : JT) : List Value → Sem
  | [.ref x0, .int x1, .int x2, .int x3] =>
    gR 11 16 x0 fun r1 =>
    gI 11 17 x0 fun v2 =>
    sA r1 v2 x1 <|
    gI 11 17 x0 fun v3 =>
    pI 11 17 x0 (v3 + 1) <|
    br (x1 = x2)
    (rZ 1)
    (J 1 [.ref x0, .int x1, .int x2, .int x3, .int 0])
  | _ => no
def bX11_walks_1 (S : ST) (J : JT) : List Value → Sem
  | [.ref x0, .int x1, .int x2, .int x3, .int x4] =>
    ob 11 x0 (cI SX11_marks [.ref x0] fun v1 =>
    br (v1 ≤ x4)
    (gI 11 17 x0 fun v2 =>
    pI 11 17 x0 (v2 - 1) <|
    rZ 0)
    (br (x4 = x3)
    (J 1 [.ref x0, .int x1, .int x2, .int x3, .int (x4 + 1)])
    (br (x4 = x1)
    (J 1 [.ref x0, .int x1, .int x2, .int x3, .int (x4 + 1)])
    (gR 11 14 x0 fun r3 =>
    cI SX11_pairOf [.int x1, .int x4] fun v4 =>
    aB r3 v4 fun v5 =>
    br (v5 = 0)
    (J 1 [.ref x0, .int x1, .int x2, .int x3, .int (x4 + 1)])
    (ob 11 x0 (cI S [.ref x0, .int x4, .int x2, .int x1] fun v6 =>
    br (v6 = 0)
    (J 1 [.ref x0, .int x1, .int x2, .int x3, .int (x4 + 1)])
    (rZ 1)))))))
  | _ => no
def bX11_walks (S : ST) (J : JT) : JT := fun L a => match L with
  | 0 => bX11_walks_0 S J a
  | 1 => bX11_walks_1 S J a
  | _ => no
def SX11_walks : Nat → ST
  | 0 => fun _ => no
  | d + 1 => mk 5 (bX11_walks (SX11_walks d))
def lX11_walks (L : Nat) (a : List Value) : Nat × Nat × Nat × List (Nat × Value) × List Value := match L with
  | 0 => (0, 0, 0, lv_args 0 a, [])
  | 1 => (0, 0, 30, List.zip [0, 1, 2, 3, 4] a, [])
  | _ => (0, 0, 0, [], [])
theorem pX11_walks_0 {Γ : CT} {S : ST} {d : Nat} (hS : Snd yX11_walks (.code yX11_walks cX11_walks 5 (some .boolean)) (rmX11_walks d) S) (hC : Ctx Γ "SpiritWallModel" cX11_walks 5 (some .boolean) (rmX11_walks (d + 1))) (hnt : NT Γ) (J : JT) (hJ : ∀ L a, Cor Γ 5 (lX11_walks L a).1 (lX11_walks L a).2.1 (lX11_walks L a).2.2.1 (lX11_walks L a).2.2.2.1 (lX11_walks L a).2.2.2.2 (J L a)) (a : List Value) : Cor Γ 5 0 0 0 (lv_args 0 a) [] (bX11_walks_0 S J a) := by
  unfold bX11_walks_0
  split
  · rename_i x0 x1 x2 x3
    refine c_sub [0, 1, 2, 3] rfl (loc' := [(0, .ref x0), (1, .int x1), (2, .int x2), (3, .int x3)]) ?_
    refine q_aload_n hC 0 dX11_walks_0 rfl rfl ?_
    refine q_getR hC (by decide) (by decide) rfl w_821 dX11_walks_1 (fun r1 => ?_)
    refine q_aload_n hC 0 dX11_walks_4 rfl rfl ?_
    refine q_getI hC (by decide) (by decide) rfl w_954 dX11_walks_5 (fun v2 => ?_)
    refine q_iload_n hC 1 dX11_walks_8 rfl rfl ?_
    refine q_iast hC dX11_walks_9 ?_
    refine q_aload_n hC 0 dX11_walks_10 rfl rfl ?_
    refine q_aload_n hC 0 dX11_walks_11 rfl rfl ?_
    refine q_getI hC (by decide) (by decide) rfl w_954 dX11_walks_12 (fun v3 => ?_)
    refine q_iconst hC dX11_walks_15 rfl ?_
    refine q_iadd hC dX11_walks_16 ?_
    refine q_putI hC (by decide) (by decide) rfl rfl w_954 dX11_walks_17 ?_
    refine q_iload_n hC 1 dX11_walks_20 rfl rfl ?_
    refine q_iload_n hC 2 dX11_walks_21 rfl rfl ?_
    refine q_ic_ne hC 27 dX11_walks_22 rfl ?_ ?_
    · refine q_iconst hC dX11_walks_27 rfl ?_
      refine q_istoreA hC (loc' := [(4, .int 0), (0, .ref x0), (1, .int x1), (2, .int x2), (3, .int x3)]) dX11_walks_28 (Nat.le_of_ble_eq_true rfl) rfl ?_
      exact c_sub [1, 2, 3, 4, 0] rfl (hJ 1 [.ref x0, .int x1, .int x2, .int x3, .int 0])
    · refine q_iconst hC dX11_walks_25 rfl ?_
      exact q_zret hC dX11_walks_26 (Nat.le_of_ble_eq_true rfl) (Nat.le_of_ble_eq_true rfl)
  · exact c_no
theorem pX11_walks_1 {Γ : CT} {S : ST} {d : Nat} (hS : Snd yX11_walks (.code yX11_walks cX11_walks 5 (some .boolean)) (rmX11_walks d) S) (hC : Ctx Γ "SpiritWallModel" cX11_walks 5 (some .boolean) (rmX11_walks (d + 1))) (hnt : NT Γ) (J : JT) (hJ : ∀ L a, Cor Γ 5 (lX11_walks L a).1 (lX11_walks L a).2.1 (lX11_walks L a).2.2.1 (lX11_walks L a).2.2.2.1 (lX11_walks L a).2.2.2.2 (J L a)) (a : List Value) : Cor Γ 5 0 0 30 (List.zip [0, 1, 2, 3, 4] a) [] (bX11_walks_1 S J a) := by
  unfold bX11_walks_1
  split
  · rename_i x0 x1 x2 x3 x4
    refine c_sub [0, 1, 2, 3, 4] rfl (loc' := [(0, .ref x0), (1, .int x1), (2, .int x2), (3, .int x3), (4, .int x4)]) ?_
    refine q_iload hC 4 dX11_walks_30 rfl ?_
    refine q_aload_n hC 0 dX11_walks_32 rfl rfl ?_
    refine q_cVI hC hnt (stk := [.int x4]) (as := []) sX11_marks (ci := 11) (by decide) rfl nX11_marks (roomOk_of (by simp only [rmX11_marks, rmX11_pairOf, rmX11_walks, rmk]; omega)) w_843 w_845 w_846 w_830 w_844 (Nat.le_of_ble_eq_true rfl) dX11_walks_33 rfl (fun v1 => ?_)
    refine q_ic_ge hC 84 dX11_walks_36 rfl ?_ ?_
    · refine q_aload_n hC 0 dX11_walks_84 rfl rfl ?_
      refine q_aload_n hC 0 dX11_walks_85 rfl rfl ?_
      refine q_getI hC (by decide) (by decide) rfl w_954 dX11_walks_86 (fun v2 => ?_)
      refine q_iconst hC dX11_walks_89 rfl ?_
      refine q_isub hC dX11_walks_90 ?_
      refine q_putI hC (by decide) (by decide) rfl rfl w_954 dX11_walks_91 ?_
      refine q_iconst hC dX11_walks_94 rfl ?_
      exact q_zret hC dX11_walks_95 (Nat.le_of_ble_eq_true rfl) (Nat.le_of_ble_eq_true rfl)
    · refine q_iload hC 4 dX11_walks_39 rfl ?_
      refine q_iload_n hC 3 dX11_walks_41 rfl rfl ?_
      refine q_ic_eq hC 78 dX11_walks_42 rfl ?_ ?_
      · refine q_iincA hC (loc' := [(4, .int (x4 + 1)), (0, .ref x0), (1, .int x1), (2, .int x2), (3, .int x3)]) 4 1 dX11_walks_78 rfl rfl (Nat.le_of_ble_eq_true rfl) rfl ?_
        refine q_goto hC 30 dX11_walks_81 rfl ?_
        exact c_sub [1, 2, 3, 4, 0] rfl (hJ 1 [.ref x0, .int x1, .int x2, .int x3, .int (x4 + 1)])
      · refine q_iload hC 4 dX11_walks_45 rfl ?_
        refine q_iload_n hC 1 dX11_walks_47 rfl rfl ?_
        refine q_ic_eq hC 78 dX11_walks_48 rfl ?_ ?_
        · refine q_iincA hC (loc' := [(4, .int (x4 + 1)), (0, .ref x0), (1, .int x1), (2, .int x2), (3, .int x3)]) 4 1 dX11_walks_78 rfl rfl (Nat.le_of_ble_eq_true rfl) rfl ?_
          refine q_goto hC 30 dX11_walks_81 rfl ?_
          exact c_sub [1, 2, 3, 4, 0] rfl (hJ 1 [.ref x0, .int x1, .int x2, .int x3, .int (x4 + 1)])
        · refine q_aload_n hC 0 dX11_walks_51 rfl rfl ?_
          refine q_getR hC (by decide) (by decide) rfl w_819 dX11_walks_52 (fun r3 => ?_)
          refine q_iload_n hC 1 dX11_walks_55 rfl rfl ?_
          refine q_iload hC 4 dX11_walks_56 rfl ?_
          refine q_cSI hC hnt (stk := [.ref r3]) (as := [.int x1, .int x4]) sX11_pairOf nX11_pairOf (roomOk_of (by simp only [rmX11_marks, rmX11_pairOf, rmX11_walks, rmk]; omega)) w_886 w_888 w_830 w_887 (Nat.le_of_ble_eq_true rfl) dX11_walks_58 rfl (fun v4 => ?_)
          refine q_bald hC dX11_walks_61 (fun v5 => ?_)
          refine q_if_eq hC 78 dX11_walks_62 rfl ?_ ?_
          · refine q_iincA hC (loc' := [(4, .int (x4 + 1)), (0, .ref x0), (1, .int x1), (2, .int x2), (3, .int x3)]) 4 1 dX11_walks_78 rfl rfl (Nat.le_of_ble_eq_true rfl) rfl ?_
            refine q_goto hC 30 dX11_walks_81 rfl ?_
            exact c_sub [1, 2, 3, 4, 0] rfl (hJ 1 [.ref x0, .int x1, .int x2, .int x3, .int (x4 + 1)])
          · refine q_aload_n hC 0 dX11_walks_65 rfl rfl ?_
            refine q_iload hC 4 dX11_walks_66 rfl ?_
            refine q_iload_n hC 2 dX11_walks_68 rfl rfl ?_
            refine q_iload_n hC 1 dX11_walks_69 rfl rfl ?_
            refine q_cVI hC hnt (stk := []) (as := [.int x4, .int x2, .int x1]) hS (ci := 11) (by decide) rfl nX11_walks (roomOk_of (by simp only [rmX11_marks, rmX11_pairOf, rmX11_walks, rmk]; omega)) w_955 w_957 w_958 w_830 w_956 (Nat.le_of_ble_eq_true rfl) dX11_walks_70 rfl (fun v6 => ?_)
            refine q_if_eq hC 78 dX11_walks_73 rfl ?_ ?_
            · refine q_iincA hC (loc' := [(4, .int (x4 + 1)), (0, .ref x0), (1, .int x1), (2, .int x2), (3, .int x3)]) 4 1 dX11_walks_78 rfl rfl (Nat.le_of_ble_eq_true rfl) rfl ?_
              refine q_goto hC 30 dX11_walks_81 rfl ?_
              exact c_sub [1, 2, 3, 4, 0] rfl (hJ 1 [.ref x0, .int x1, .int x2, .int x3, .int (x4 + 1)])
            · refine q_iconst hC dX11_walks_76 rfl ?_
              exact q_zret hC dX11_walks_77 (Nat.le_of_ble_eq_true rfl) (Nat.le_of_ble_eq_true rfl)
  · exact c_no
theorem sX11_walks : ∀ d, Snd yX11_walks (.code yX11_walks cX11_walks 5 (some .boolean)) (rmX11_walks d) (SX11_walks d)
  | 0 => fun l hl G sz av μ Q h => h.elim
  | d + 1 => by
    have hS := sX11_walks d
    refine Snd.of lX11_walks (by decide +kernel) (fun _ => rfl) ?_
    intro Γ hC hnt hnm J hJ L a
    match L with
    | 0 => exact pX11_walks_0 hS hC hnt J hJ a
    | 1 => exact pX11_walks_1 hS hC hnt J hJ a
    | L + 2 => exact c_no
/-! SpiritWallModel.findsWay(II)Z -/
theorem dX11_findsWay_0 : decode cX11_findsWay 0 = .ok (.aload_n 0, 1) := by decide +kernel
theorem dX11_findsWay_1 : decode cX11_findsWay 1 = .ok (.iconst 0, 1) := by decide +kernel
theorem dX11_findsWay_2 : decode cX11_findsWay 2 = .ok (.putfield 192, 3) := by decide +kernel
theorem dX11_findsWay_5 : decode cX11_findsWay 5 = .ok (.aload_n 0, 1) := by decide +kernel
theorem dX11_findsWay_6 : decode cX11_findsWay 6 = .ok (.iload_n 1, 1) := by decide +kernel
theorem dX11_findsWay_7 : decode cX11_findsWay 7 = .ok (.iload_n 2, 1) := by decide +kernel
theorem dX11_findsWay_8 : decode cX11_findsWay 8 = .ok (.iconst (-1), 1) := by decide +kernel
theorem dX11_findsWay_9 : decode cX11_findsWay 9 = .ok (.invokevirtual 195, 3) := by decide +kernel
theorem dX11_findsWay_12 : decode cX11_findsWay 12 = .ok (.ireturn, 1) := by decide +kernel
def rmX11_findsWay : Room := rmk 21 0 0 507
theorem nX11_findsWay : nameOk yX11_findsWay 2 = true := by decide +kernel
def bX11_findsWay_0 (J : JT) : List Value → Sem
  | [.ref x0, .int x1, .int x2] =>
    pI 11 17 x0 0 <|
    ob 11 x0 (cI (SX11_walks 13) [.ref x0, .int x1, .int x2, .int (-1)] fun v1 =>
    rZ v1)
  | _ => no
def bX11_findsWay (J : JT) : JT := fun L a => match L with
  | 0 => bX11_findsWay_0 J a
  | _ => no
def SX11_findsWay : ST := mk 3 bX11_findsWay
def lX11_findsWay (L : Nat) (a : List Value) : Nat × Nat × Nat × List (Nat × Value) × List Value := match L with
  | 0 => (0, 0, 0, lv_args 0 a, [])
  | _ => (0, 0, 0, [], [])
theorem pX11_findsWay_0 {Γ : CT} (hC : Ctx Γ "SpiritWallModel" cX11_findsWay 3 (some .boolean) rmX11_findsWay) (hnt : NT Γ) (J : JT) (hJ : ∀ L a, Cor Γ 3 (lX11_findsWay L a).1 (lX11_findsWay L a).2.1 (lX11_findsWay L a).2.2.1 (lX11_findsWay L a).2.2.2.1 (lX11_findsWay L a).2.2.2.2 (J L a)) (a : List Value) : Cor Γ 3 0 0 0 (lv_args 0 a) [] (bX11_findsWay_0 J a) := by
  unfold bX11_findsWay_0
  split
  · rename_i x0 x1 x2
    refine c_sub [0, 1, 2] rfl (loc' := [(0, .ref x0), (1, .int x1), (2, .int x2)]) ?_
    refine q_aload_n hC 0 dX11_findsWay_0 rfl rfl ?_
    refine q_iconst hC dX11_findsWay_1 rfl ?_
    refine q_putI hC (by decide) (by decide) rfl rfl w_954 dX11_findsWay_2 ?_
    refine q_aload_n hC 0 dX11_findsWay_5 rfl rfl ?_
    refine q_iload_n hC 1 dX11_findsWay_6 rfl rfl ?_
    refine q_iload_n hC 2 dX11_findsWay_7 rfl rfl ?_
    refine q_iconst hC dX11_findsWay_8 rfl ?_
    refine q_cVI hC hnt (stk := []) (as := [.int x1, .int x2, .int (-1)]) (sX11_walks 13) (ci := 11) (by decide) rfl nX11_walks rfl w_955 w_957 w_958 w_830 w_956 (Nat.le_of_ble_eq_true rfl) dX11_findsWay_9 rfl (fun v1 => ?_)
    exact q_zret hC dX11_findsWay_12 (Nat.le_of_ble_eq_true rfl) (Nat.le_of_ble_eq_true rfl)
  · exact c_no
theorem sX11_findsWay : Snd yX11_findsWay (.code yX11_findsWay cX11_findsWay 3 (some .boolean)) rmX11_findsWay SX11_findsWay := by
  refine Snd.of lX11_findsWay (by decide +kernel) (fun _ => rfl) ?_
  intro Γ hC hnt hnm J hJ L a
  match L with
  | 0 => exact pX11_findsWay_0 hC hnt J hJ a
  | L + 1 => exact c_no
/-! SpiritWallModel.sumOfWay()I -/
theorem dX11_sumOfWay_0 : decode cX11_sumOfWay 0 = .ok (.iconst 0, 1) := by decide +kernel
theorem dX11_sumOfWay_1 : decode cX11_sumOfWay 1 = .ok (.istore_n 1, 1) := by decide +kernel
theorem dX11_sumOfWay_2 : decode cX11_sumOfWay 2 = .ok (.iconst 1, 1) := by decide +kernel
theorem dX11_sumOfWay_3 : decode cX11_sumOfWay 3 = .ok (.istore_n 2, 1) := by decide +kernel
theorem dX11_sumOfWay_4 : decode cX11_sumOfWay 4 = .ok (.iload_n 2, 1) := by decide +kernel
theorem dX11_sumOfWay_5 : decode cX11_sumOfWay 5 = .ok (.aload_n 0, 1) := by decide +kernel
theorem dX11_sumOfWay_6 : decode cX11_sumOfWay 6 = .ok (.getfield 192, 3) := by decide +kernel
theorem dX11_sumOfWay_9 : decode cX11_sumOfWay 9 = .ok (.if_icmp .ge 30, 3) := by decide +kernel
theorem dX11_sumOfWay_12 : decode cX11_sumOfWay 12 = .ok (.iload_n 1, 1) := by decide +kernel
theorem dX11_sumOfWay_13 : decode cX11_sumOfWay 13 = .ok (.aload_n 0, 1) := by decide +kernel
theorem dX11_sumOfWay_14 : decode cX11_sumOfWay 14 = .ok (.aload_n 0, 1) := by decide +kernel
theorem dX11_sumOfWay_15 : decode cX11_sumOfWay 15 = .ok (.getfield 47, 3) := by decide +kernel
theorem dX11_sumOfWay_18 : decode cX11_sumOfWay 18 = .ok (.iload_n 2, 1) := by decide +kernel
theorem dX11_sumOfWay_19 : decode cX11_sumOfWay 19 = .ok (.iconst 1, 1) := by decide +kernel
theorem dX11_sumOfWay_20 : decode cX11_sumOfWay 20 = .ok (.isub, 1) := by decide +kernel
theorem dX11_sumOfWay_21 : decode cX11_sumOfWay 21 = .ok (.iaload, 1) := by decide +kernel
theorem dX11_sumOfWay_22 : decode cX11_sumOfWay 22 = .ok (.aload_n 0, 1) := by decide +kernel
theorem dX11_sumOfWay_23 : decode cX11_sumOfWay 23 = .ok (.getfield 47, 3) := by decide +kernel
theorem dX11_sumOfWay_26 : decode cX11_sumOfWay 26 = .ok (.iload_n 2, 1) := by decide +kernel
theorem dX11_sumOfWay_27 : decode cX11_sumOfWay 27 = .ok (.iaload, 1) := by decide +kernel
theorem dX11_sumOfWay_28 : decode cX11_sumOfWay 28 = .ok (.invokevirtual 199, 3) := by decide +kernel
theorem dX11_sumOfWay_31 : decode cX11_sumOfWay 31 = .ok (.iadd, 1) := by decide +kernel
theorem dX11_sumOfWay_32 : decode cX11_sumOfWay 32 = .ok (.istore_n 1, 1) := by decide +kernel
theorem dX11_sumOfWay_33 : decode cX11_sumOfWay 33 = .ok (.iinc 2 1, 3) := by decide +kernel
theorem dX11_sumOfWay_36 : decode cX11_sumOfWay 36 = .ok (.goto (-32), 3) := by decide +kernel
theorem dX11_sumOfWay_39 : decode cX11_sumOfWay 39 = .ok (.iload_n 1, 1) := by decide +kernel
theorem dX11_sumOfWay_40 : decode cX11_sumOfWay 40 = .ok (.ireturn, 1) := by decide +kernel
def rmX11_sumOfWay : Room := rmk 8 0 0 193
theorem nX11_sumOfWay : nameOk yX11_sumOfWay 0 = true := by decide +kernel
def bX11_sumOfWay_0 (J : JT) : List Value → Sem
  | [.ref x0] =>
    J 1 [.ref x0, .int 0, .int 1]
  | _ => no
def bX11_sumOfWay_1 (J : JT) : List Value → Sem
  | [.ref x0, .int x1, .int x2] =>
    gI 11 17 x0 fun v1 =>
    br (v1 ≤ x2)
    (rI x1)
    (gR 11 16 x0 fun r2 =>
    aI r2 (x2 - 1) fun v3 =>
    gR 11 16 x0 fun r4 =>
    aI r4 x2 fun v5 =>
    ob 11 x0 (cI SX11_riseFrom [.ref x0, .int v3, .int v5] fun v6 =>
    lI (x1 + v6) fun y1_7 =>
    J 1 [.ref x0, .int y1_7, .int (x2 + 1)]))
  | _ => no
def bX11_sumOfWay (J : JT) : JT := fun L a => match L with
  | 0 => bX11_sumOfWay_0 J a
  | 1 => bX11_sumOfWay_1 J a
  | _ => no
def SX11_sumOfWay : ST := mk 3 bX11_sumOfWay
def lX11_sumOfWay (L : Nat) (a : List Value) : Nat × Nat × Nat × List (Nat × Value) × List Value := match L with
  | 0 => (0, 0, 0, lv_args 0 a, [])
  | 1 => (0, 0, 4, List.zip [0, 1, 2] a, [])
  | _ => (0, 0, 0, [], [])
theorem pX11_sumOfWay_0 {Γ : CT} (hC : Ctx Γ "SpiritWallModel" cX11_sumOfWay 3 (some .int) rmX11_sumOfWay) (hnt : NT Γ) (J : JT) (hJ : ∀ L a, Cor Γ 3 (lX11_sumOfWay L a).1 (lX11_sumOfWay L a).2.1 (lX11_sumOfWay L a).2.2.1 (lX11_sumOfWay L a).2.2.2.1 (lX11_sumOfWay L a).2.2.2.2 (J L a)) (a : List Value) : Cor Γ 3 0 0 0 (lv_args 0 a) [] (bX11_sumOfWay_0 J a) := by
  unfold bX11_sumOfWay_0
  split
  · rename_i x0
    refine c_sub [0] rfl (loc' := [(0, .ref x0)]) ?_
    refine q_iconst hC dX11_sumOfWay_0 rfl ?_
    refine q_istore_nA hC (loc' := [(1, .int 0), (0, .ref x0)]) dX11_sumOfWay_1 rfl (Nat.le_of_ble_eq_true rfl) rfl ?_
    refine q_iconst hC dX11_sumOfWay_2 rfl ?_
    refine q_istore_nA hC (loc' := [(2, .int 1), (1, .int 0), (0, .ref x0)]) dX11_sumOfWay_3 rfl (Nat.le_of_ble_eq_true rfl) rfl ?_
    exact c_sub [2, 1, 0] rfl (hJ 1 [.ref x0, .int 0, .int 1])
  · exact c_no
theorem pX11_sumOfWay_1 {Γ : CT} (hC : Ctx Γ "SpiritWallModel" cX11_sumOfWay 3 (some .int) rmX11_sumOfWay) (hnt : NT Γ) (J : JT) (hJ : ∀ L a, Cor Γ 3 (lX11_sumOfWay L a).1 (lX11_sumOfWay L a).2.1 (lX11_sumOfWay L a).2.2.1 (lX11_sumOfWay L a).2.2.2.1 (lX11_sumOfWay L a).2.2.2.2 (J L a)) (a : List Value) : Cor Γ 3 0 0 4 (List.zip [0, 1, 2] a) [] (bX11_sumOfWay_1 J a) := by
  unfold bX11_sumOfWay_1
  split
  · rename_i x0 x1 x2
    refine c_sub [0, 1, 2] rfl (loc' := [(0, .ref x0), (1, .int x1), (2, .int x2)]) ?_
    refine q_iload_n hC 2 dX11_sumOfWay_4 rfl rfl ?_
    refine q_aload_n hC 0 dX11_sumOfWay_5 rfl rfl ?_
    refine q_getI hC (by decide) (by decide) rfl w_954 dX11_sumOfWay_6 (fun v1 => ?_)
    refine q_ic_ge hC 39 dX11_sumOfWay_9 rfl ?_ ?_
    · refine q_iload_n hC 1 dX11_sumOfWay_39 rfl rfl ?_
      exact q_iret hC dX11_sumOfWay_40 (Nat.le_of_ble_eq_true rfl) (Nat.le_of_ble_eq_true rfl)
    · refine q_iload_n hC 1 dX11_sumOfWay_12 rfl rfl ?_
      refine q_aload_n hC 0 dX11_sumOfWay_13 rfl rfl ?_
      refine q_aload_n hC 0 dX11_sumOfWay_14 rfl rfl ?_
      refine q_getR hC (by decide) (by decide) rfl w_821 dX11_sumOfWay_15 (fun r2 => ?_)
      refine q_iload_n hC 2 dX11_sumOfWay_18 rfl rfl ?_
      refine q_iconst hC dX11_sumOfWay_19 rfl ?_
      refine q_isub hC dX11_sumOfWay_20 ?_
      refine q_iald hC dX11_sumOfWay_21 (fun v3 => ?_)
      refine q_aload_n hC 0 dX11_sumOfWay_22 rfl rfl ?_
      refine q_getR hC (by decide) (by decide) rfl w_821 dX11_sumOfWay_23 (fun r4 => ?_)
      refine q_iload_n hC 2 dX11_sumOfWay_26 rfl rfl ?_
      refine q_iald hC dX11_sumOfWay_27 (fun v5 => ?_)
      refine q_cVI hC hnt (stk := [.int x1]) (as := [.int v3, .int v5]) sX11_riseFrom (ci := 11) (by decide) rfl nX11_riseFrom rfl w_959 w_961 w_962 w_830 w_960 (Nat.le_of_ble_eq_true rfl) dX11_sumOfWay_28 rfl (fun v6 => ?_)
      refine q_iadd hC dX11_sumOfWay_31 ?_
      refine q_istore_n hC (fun y1_7 => [(1, .int y1_7), (0, .ref x0), (2, .int x2)]) dX11_sumOfWay_32 rfl (Nat.le_of_ble_eq_true rfl) (fun _ => rfl) (fun y1_7 => ?_)
      refine q_iincA hC (loc' := [(2, .int (x2 + 1)), (1, .int y1_7), (0, .ref x0)]) 2 1 dX11_sumOfWay_33 rfl rfl (Nat.le_of_ble_eq_true rfl) rfl ?_
      refine q_goto hC 4 dX11_sumOfWay_36 rfl ?_
      exact c_sub [2, 1, 0] rfl (hJ 1 [.ref x0, .int y1_7, .int (x2 + 1)])
  · exact c_no
theorem sX11_sumOfWay : Snd yX11_sumOfWay (.code yX11_sumOfWay cX11_sumOfWay 3 (some .int)) rmX11_sumOfWay SX11_sumOfWay := by
  refine Snd.of lX11_sumOfWay (by decide +kernel) (fun _ => rfl) ?_
  intro Γ hC hnt hnm J hJ L a
  match L with
  | 0 => exact pX11_sumOfWay_0 hC hnt J hJ a
  | 1 => exact pX11_sumOfWay_1 hC hnt J hJ a
  | L + 2 => exact c_no
/-! SpiritWallModel.lengthOfWay()I -/
theorem dX11_lengthOfWay_0 : decode cX11_lengthOfWay 0 = .ok (.iconst 0, 1) := by decide +kernel
theorem dX11_lengthOfWay_1 : decode cX11_lengthOfWay 1 = .ok (.istore_n 1, 1) := by decide +kernel
theorem dX11_lengthOfWay_2 : decode cX11_lengthOfWay 2 = .ok (.iconst 1, 1) := by decide +kernel
theorem dX11_lengthOfWay_3 : decode cX11_lengthOfWay 3 = .ok (.istore_n 2, 1) := by decide +kernel
theorem dX11_lengthOfWay_4 : decode cX11_lengthOfWay 4 = .ok (.iload_n 2, 1) := by decide +kernel
theorem dX11_lengthOfWay_5 : decode cX11_lengthOfWay 5 = .ok (.aload_n 0, 1) := by decide +kernel
theorem dX11_lengthOfWay_6 : decode cX11_lengthOfWay 6 = .ok (.getfield 192, 3) := by decide +kernel
theorem dX11_lengthOfWay_9 : decode cX11_lengthOfWay 9 = .ok (.if_icmp .ge 30, 3) := by decide +kernel
theorem dX11_lengthOfWay_12 : decode cX11_lengthOfWay 12 = .ok (.iload_n 1, 1) := by decide +kernel
theorem dX11_lengthOfWay_13 : decode cX11_lengthOfWay 13 = .ok (.aload_n 0, 1) := by decide +kernel
theorem dX11_lengthOfWay_14 : decode cX11_lengthOfWay 14 = .ok (.aload_n 0, 1) := by decide +kernel
theorem dX11_lengthOfWay_15 : decode cX11_lengthOfWay 15 = .ok (.getfield 47, 3) := by decide +kernel
theorem dX11_lengthOfWay_18 : decode cX11_lengthOfWay 18 = .ok (.iload_n 2, 1) := by decide +kernel
theorem dX11_lengthOfWay_19 : decode cX11_lengthOfWay 19 = .ok (.iconst 1, 1) := by decide +kernel
theorem dX11_lengthOfWay_20 : decode cX11_lengthOfWay 20 = .ok (.isub, 1) := by decide +kernel
theorem dX11_lengthOfWay_21 : decode cX11_lengthOfWay 21 = .ok (.iaload, 1) := by decide +kernel
theorem dX11_lengthOfWay_22 : decode cX11_lengthOfWay 22 = .ok (.aload_n 0, 1) := by decide +kernel
theorem dX11_lengthOfWay_23 : decode cX11_lengthOfWay 23 = .ok (.getfield 47, 3) := by decide +kernel
theorem dX11_lengthOfWay_26 : decode cX11_lengthOfWay 26 = .ok (.iload_n 2, 1) := by decide +kernel
theorem dX11_lengthOfWay_27 : decode cX11_lengthOfWay 27 = .ok (.iaload, 1) := by decide +kernel
theorem dX11_lengthOfWay_28 : decode cX11_lengthOfWay 28 = .ok (.invokevirtual 113, 3) := by decide +kernel
theorem dX11_lengthOfWay_31 : decode cX11_lengthOfWay 31 = .ok (.iadd, 1) := by decide +kernel
theorem dX11_lengthOfWay_32 : decode cX11_lengthOfWay 32 = .ok (.istore_n 1, 1) := by decide +kernel
theorem dX11_lengthOfWay_33 : decode cX11_lengthOfWay 33 = .ok (.iinc 2 1, 3) := by decide +kernel
theorem dX11_lengthOfWay_36 : decode cX11_lengthOfWay 36 = .ok (.goto (-32), 3) := by decide +kernel
theorem dX11_lengthOfWay_39 : decode cX11_lengthOfWay 39 = .ok (.iload_n 1, 1) := by decide +kernel
theorem dX11_lengthOfWay_40 : decode cX11_lengthOfWay 40 = .ok (.ireturn, 1) := by decide +kernel
def rmX11_lengthOfWay : Room := rmk 8 0 0 194
theorem nX11_lengthOfWay : nameOk yX11_lengthOfWay 0 = true := by decide +kernel
def bX11_lengthOfWay_0 (J : JT) : List Value → Sem
  | [.ref x0] =>
    J 1 [.ref x0, .int 0, .int 1]
  | _ => no
def bX11_lengthOfWay_1 (J : JT) : List Value → Sem
  | [.ref x0, .int x1, .int x2] =>
    gI 11 17 x0 fun v1 =>
    br (v1 ≤ x2)
    (rI x1)
    (gR 11 16 x0 fun r2 =>
    aI r2 (x2 - 1) fun v3 =>
    gR 11 16 x0 fun r4 =>
    aI r4 x2 fun v5 =>
    ob 11 x0 (cI SX11_distance [.ref x0, .int v3, .int v5] fun v6 =>
    lI (x1 + v6) fun y1_7 =>
    J 1 [.ref x0, .int y1_7, .int (x2 + 1)]))
  | _ => no
def bX11_lengthOfWay (J : JT) : JT := fun L a => match L with
  | 0 => bX11_lengthOfWay_0 J a
  | 1 => bX11_lengthOfWay_1 J a
  | _ => no
def SX11_lengthOfWay : ST := mk 3 bX11_lengthOfWay
def lX11_lengthOfWay (L : Nat) (a : List Value) : Nat × Nat × Nat × List (Nat × Value) × List Value := match L with
  | 0 => (0, 0, 0, lv_args 0 a, [])
  | 1 => (0, 0, 4, List.zip [0, 1, 2] a, [])
  | _ => (0, 0, 0, [], [])
theorem pX11_lengthOfWay_0 {Γ : CT} (hC : Ctx Γ "SpiritWallModel" cX11_lengthOfWay 3 (some .int) rmX11_lengthOfWay) (hnt : NT Γ) (J : JT) (hJ : ∀ L a, Cor Γ 3 (lX11_lengthOfWay L a).1 (lX11_lengthOfWay L a).2.1 (lX11_lengthOfWay L a).2.2.1 (lX11_lengthOfWay L a).2.2.2.1 (lX11_lengthOfWay L a).2.2.2.2 (J L a)) (a : List Value) : Cor Γ 3 0 0 0 (lv_args 0 a) [] (bX11_lengthOfWay_0 J a) := by
  unfold bX11_lengthOfWay_0
  split
  · rename_i x0
    refine c_sub [0] rfl (loc' := [(0, .ref x0)]) ?_
    refine q_iconst hC dX11_lengthOfWay_0 rfl ?_
    refine q_istore_nA hC (loc' := [(1, .int 0), (0, .ref x0)]) dX11_lengthOfWay_1 rfl (Nat.le_of_ble_eq_true rfl) rfl ?_
    refine q_iconst hC dX11_lengthOfWay_2 rfl ?_
    refine q_istore_nA hC (loc' := [(2, .int 1), (1, .int 0), (0, .ref x0)]) dX11_lengthOfWay_3 rfl (Nat.le_of_ble_eq_true rfl) rfl ?_
    exact c_sub [2, 1, 0] rfl (hJ 1 [.ref x0, .int 0, .int 1])
  · exact c_no
theorem pX11_lengthOfWay_1 {Γ : CT} (hC : Ctx Γ "SpiritWallModel" cX11_lengthOfWay 3 (some .int) rmX11_lengthOfWay) (hnt : NT Γ) (J : JT) (hJ : ∀ L a, Cor Γ 3 (lX11_lengthOfWay L a).1 (lX11_lengthOfWay L a).2.1 (lX11_lengthOfWay L a).2.2.1 (lX11_lengthOfWay L a).2.2.2.1 (lX11_lengthOfWay L a).2.2.2.2 (J L a)) (a : List Value) : Cor Γ 3 0 0 4 (List.zip [0, 1, 2] a) [] (bX11_lengthOfWay_1 J a) := by
  unfold bX11_lengthOfWay_1
  split
  · rename_i x0 x1 x2
    refine c_sub [0, 1, 2] rfl (loc' := [(0, .ref x0), (1, .int x1), (2, .int x2)]) ?_
    refine q_iload_n hC 2 dX11_lengthOfWay_4 rfl rfl ?_
    refine q_aload_n hC 0 dX11_lengthOfWay_5 rfl rfl ?_
    refine q_getI hC (by decide) (by decide) rfl w_954 dX11_lengthOfWay_6 (fun v1 => ?_)
    refine q_ic_ge hC 39 dX11_lengthOfWay_9 rfl ?_ ?_
    · refine q_iload_n hC 1 dX11_lengthOfWay_39 rfl rfl ?_
      exact q_iret hC dX11_lengthOfWay_40 (Nat.le_of_ble_eq_true rfl) (Nat.le_of_ble_eq_true rfl)
    · refine q_iload_n hC 1 dX11_lengthOfWay_12 rfl rfl ?_
      refine q_aload_n hC 0 dX11_lengthOfWay_13 rfl rfl ?_
      refine q_aload_n hC 0 dX11_lengthOfWay_14 rfl rfl ?_
      refine q_getR hC (by decide) (by decide) rfl w_821 dX11_lengthOfWay_15 (fun r2 => ?_)
      refine q_iload_n hC 2 dX11_lengthOfWay_18 rfl rfl ?_
      refine q_iconst hC dX11_lengthOfWay_19 rfl ?_
      refine q_isub hC dX11_lengthOfWay_20 ?_
      refine q_iald hC dX11_lengthOfWay_21 (fun v3 => ?_)
      refine q_aload_n hC 0 dX11_lengthOfWay_22 rfl rfl ?_
      refine q_getR hC (by decide) (by decide) rfl w_821 dX11_lengthOfWay_23 (fun r4 => ?_)
      refine q_iload_n hC 2 dX11_lengthOfWay_26 rfl rfl ?_
      refine q_iald hC dX11_lengthOfWay_27 (fun v5 => ?_)
      refine q_cVI hC hnt (stk := [.int x1]) (as := [.int v3, .int v5]) sX11_distance (ci := 11) (by decide) rfl nX11_distance rfl w_867 w_869 w_870 w_830 w_868 (Nat.le_of_ble_eq_true rfl) dX11_lengthOfWay_28 rfl (fun v6 => ?_)
      refine q_iadd hC dX11_lengthOfWay_31 ?_
      refine q_istore_n hC (fun y1_7 => [(1, .int y1_7), (0, .ref x0), (2, .int x2)]) dX11_lengthOfWay_32 rfl (Nat.le_of_ble_eq_true rfl) (fun _ => rfl) (fun y1_7 => ?_)
      refine q_iincA hC (loc' := [(2, .int (x2 + 1)), (1, .int y1_7), (0, .ref x0)]) 2 1 dX11_lengthOfWay_33 rfl rfl (Nat.le_of_ble_eq_true rfl) rfl ?_
      refine q_goto hC 4 dX11_lengthOfWay_36 rfl ?_
      exact c_sub [2, 1, 0] rfl (hJ 1 [.ref x0, .int y1_7, .int (x2 + 1)])
  · exact c_no
theorem sX11_lengthOfWay : Snd yX11_lengthOfWay (.code yX11_lengthOfWay cX11_lengthOfWay 3 (some .int)) rmX11_lengthOfWay SX11_lengthOfWay := by
  refine Snd.of lX11_lengthOfWay (by decide +kernel) (fun _ => rfl) ?_
  intro Γ hC hnt hnm J hJ L a
  match L with
  | 0 => exact pX11_lengthOfWay_0 hC hnt J hJ a
  | 1 => exact pX11_lengthOfWay_1 hC hnt J hJ a
  | L + 2 => exact c_no
/-! SpiritWallModel.loopEdge(I)I -/
theorem dX11_loopEdge_0 : decode cX11_loopEdge 0 = .ok (.iload_n 1, 1) := by decide +kernel
theorem dX11_loopEdge_1 : decode cX11_loopEdge 1 = .ok (.istore_n 2, 1) := by decide +kernel
theorem dX11_loopEdge_2 : decode cX11_loopEdge 2 = .ok (.iconst 0, 1) := by decide +kernel
theorem dX11_loopEdge_3 : decode cX11_loopEdge 3 = .ok (.istore_n 3, 1) := by decide +kernel
theorem dX11_loopEdge_4 : decode cX11_loopEdge 4 = .ok (.iload_n 3, 1) := by decide +kernel
theorem dX11_loopEdge_5 : decode cX11_loopEdge 5 = .ok (.sipush 144, 3) := by decide +kernel
theorem dX11_loopEdge_8 : decode cX11_loopEdge 8 = .ok (.if_icmp .ge 40, 3) := by decide +kernel
theorem dX11_loopEdge_11 : decode cX11_loopEdge 11 = .ok (.aload_n 0, 1) := by decide +kernel
theorem dX11_loopEdge_12 : decode cX11_loopEdge 12 = .ok (.getfield 31, 3) := by decide +kernel
theorem dX11_loopEdge_15 : decode cX11_loopEdge 15 = .ok (.iload_n 3, 1) := by decide +kernel
theorem dX11_loopEdge_16 : decode cX11_loopEdge 16 = .ok (.iaload, 1) := by decide +kernel
theorem dX11_loopEdge_17 : decode cX11_loopEdge 17 = .ok (.ifCond .eq 25, 3) := by decide +kernel
theorem dX11_loopEdge_20 : decode cX11_loopEdge 20 = .ok (.aload_n 0, 1) := by decide +kernel
theorem dX11_loopEdge_21 : decode cX11_loopEdge 21 = .ok (.getfield 40, 3) := by decide +kernel
theorem dX11_loopEdge_24 : decode cX11_loopEdge 24 = .ok (.iload_n 3, 1) := by decide +kernel
theorem dX11_loopEdge_25 : decode cX11_loopEdge 25 = .ok (.baload, 1) := by decide +kernel
theorem dX11_loopEdge_26 : decode cX11_loopEdge 26 = .ok (.ifCond .eq 6, 3) := by decide +kernel
theorem dX11_loopEdge_29 : decode cX11_loopEdge 29 = .ok (.goto 13, 3) := by decide +kernel
theorem dX11_loopEdge_32 : decode cX11_loopEdge 32 = .ok (.iload_n 2, 1) := by decide +kernel
theorem dX11_loopEdge_33 : decode cX11_loopEdge 33 = .ok (.ifCond .ne 5, 3) := by decide +kernel
theorem dX11_loopEdge_36 : decode cX11_loopEdge 36 = .ok (.iload_n 3, 1) := by decide +kernel
theorem dX11_loopEdge_37 : decode cX11_loopEdge 37 = .ok (.ireturn, 1) := by decide +kernel
theorem dX11_loopEdge_38 : decode cX11_loopEdge 38 = .ok (.iload_n 2, 1) := by decide +kernel
theorem dX11_loopEdge_39 : decode cX11_loopEdge 39 = .ok (.iconst 1, 1) := by decide +kernel
theorem dX11_loopEdge_40 : decode cX11_loopEdge 40 = .ok (.isub, 1) := by decide +kernel
theorem dX11_loopEdge_41 : decode cX11_loopEdge 41 = .ok (.istore_n 2, 1) := by decide +kernel
theorem dX11_loopEdge_42 : decode cX11_loopEdge 42 = .ok (.iinc 3 1, 3) := by decide +kernel
theorem dX11_loopEdge_45 : decode cX11_loopEdge 45 = .ok (.goto (-41), 3) := by decide +kernel
theorem dX11_loopEdge_48 : decode cX11_loopEdge 48 = .ok (.iconst (-1), 1) := by decide +kernel
theorem dX11_loopEdge_49 : decode cX11_loopEdge 49 = .ok (.ireturn, 1) := by decide +kernel
def rmX11_loopEdge : Room := rmk 6 0 0 150
theorem nX11_loopEdge : nameOk yX11_loopEdge 1 = true := by decide +kernel
def bX11_loopEdge_0 (J : JT) : List Value → Sem
  | [.ref x0, .int x1] =>
    J 1 [.ref x0, .int x1, .int 0]
  | _ => no
def bX11_loopEdge_1 (J : JT) : List Value → Sem
  | [.ref x0, .int x2, .int x3] =>
    br ((144 : Int32) ≤ x3)
    (rI (-1))
    (gR 11 11 x0 fun r1 =>
    aI r1 x3 fun v2 =>
    br (v2 = 0)
    (J 1 [.ref x0, .int x2, .int (x3 + 1)])
    (gR 11 14 x0 fun r3 =>
    aB r3 x3 fun v4 =>
    br (v4 = 0)
    (br (x2 = 0)
    (rI x3)
    (lI (x2 - 1) fun y2_5 =>
    J 1 [.ref x0, .int y2_5, .int (x3 + 1)]))
    (J 1 [.ref x0, .int x2, .int (x3 + 1)])))
  | _ => no
def bX11_loopEdge (J : JT) : JT := fun L a => match L with
  | 0 => bX11_loopEdge_0 J a
  | 1 => bX11_loopEdge_1 J a
  | _ => no
def SX11_loopEdge : ST := mk 4 bX11_loopEdge
def lX11_loopEdge (L : Nat) (a : List Value) : Nat × Nat × Nat × List (Nat × Value) × List Value := match L with
  | 0 => (0, 0, 0, lv_args 0 a, [])
  | 1 => (0, 0, 4, List.zip [0, 2, 3] a, [])
  | _ => (0, 0, 0, [], [])
theorem pX11_loopEdge_0 {Γ : CT} (hC : Ctx Γ "SpiritWallModel" cX11_loopEdge 4 (some .int) rmX11_loopEdge) (hnt : NT Γ) (J : JT) (hJ : ∀ L a, Cor Γ 4 (lX11_loopEdge L a).1 (lX11_loopEdge L a).2.1 (lX11_loopEdge L a).2.2.1 (lX11_loopEdge L a).2.2.2.1 (lX11_loopEdge L a).2.2.2.2 (J L a)) (a : List Value) : Cor Γ 4 0 0 0 (lv_args 0 a) [] (bX11_loopEdge_0 J a) := by
  unfold bX11_loopEdge_0
  split
  · rename_i x0 x1
    refine c_sub [0, 1] rfl (loc' := [(0, .ref x0), (1, .int x1)]) ?_
    refine q_iload_n hC 1 dX11_loopEdge_0 rfl rfl ?_
    refine q_istore_nA hC (loc' := [(2, .int x1), (0, .ref x0), (1, .int x1)]) dX11_loopEdge_1 rfl (Nat.le_of_ble_eq_true rfl) rfl ?_
    refine q_iconst hC dX11_loopEdge_2 rfl ?_
    refine q_istore_nA hC (loc' := [(3, .int 0), (2, .int x1), (0, .ref x0), (1, .int x1)]) dX11_loopEdge_3 rfl (Nat.le_of_ble_eq_true rfl) rfl ?_
    exact c_sub [2, 1, 0] rfl (hJ 1 [.ref x0, .int x1, .int 0])
  · exact c_no
theorem pX11_loopEdge_1 {Γ : CT} (hC : Ctx Γ "SpiritWallModel" cX11_loopEdge 4 (some .int) rmX11_loopEdge) (hnt : NT Γ) (J : JT) (hJ : ∀ L a, Cor Γ 4 (lX11_loopEdge L a).1 (lX11_loopEdge L a).2.1 (lX11_loopEdge L a).2.2.1 (lX11_loopEdge L a).2.2.2.1 (lX11_loopEdge L a).2.2.2.2 (J L a)) (a : List Value) : Cor Γ 4 0 0 4 (List.zip [0, 2, 3] a) [] (bX11_loopEdge_1 J a) := by
  unfold bX11_loopEdge_1
  split
  · rename_i x0 x2 x3
    refine c_sub [0, 1, 2] rfl (loc' := [(0, .ref x0), (2, .int x2), (3, .int x3)]) ?_
    refine q_iload_n hC 2 dX11_loopEdge_4 rfl rfl ?_
    refine q_sipush hC (v := 144) dX11_loopEdge_5 rfl ?_
    refine q_ic_ge hC 48 dX11_loopEdge_8 rfl ?_ ?_
    · refine q_iconst hC dX11_loopEdge_48 rfl ?_
      exact q_iret hC dX11_loopEdge_49 (Nat.le_of_ble_eq_true rfl) (Nat.le_of_ble_eq_true rfl)
    · refine q_aload_n hC 0 dX11_loopEdge_11 rfl rfl ?_
      refine q_getR hC (by decide) (by decide) rfl w_816 dX11_loopEdge_12 (fun r1 => ?_)
      refine q_iload_n hC 2 dX11_loopEdge_15 rfl rfl ?_
      refine q_iald hC dX11_loopEdge_16 (fun v2 => ?_)
      refine q_if_eq hC 42 dX11_loopEdge_17 rfl ?_ ?_
      · refine q_iincA hC (loc' := [(3, .int (x3 + 1)), (0, .ref x0), (2, .int x2)]) 2 1 dX11_loopEdge_42 rfl rfl (Nat.le_of_ble_eq_true rfl) rfl ?_
        refine q_goto hC 4 dX11_loopEdge_45 rfl ?_
        exact c_sub [1, 2, 0] rfl (hJ 1 [.ref x0, .int x2, .int (x3 + 1)])
      · refine q_aload_n hC 0 dX11_loopEdge_20 rfl rfl ?_
        refine q_getR hC (by decide) (by decide) rfl w_819 dX11_loopEdge_21 (fun r3 => ?_)
        refine q_iload_n hC 2 dX11_loopEdge_24 rfl rfl ?_
        refine q_bald hC dX11_loopEdge_25 (fun v4 => ?_)
        refine q_if_eq hC 32 dX11_loopEdge_26 rfl ?_ ?_
        · refine q_iload_n hC 1 dX11_loopEdge_32 rfl rfl ?_
          refine q_if_ne hC 38 dX11_loopEdge_33 rfl ?_ ?_
          · refine q_iload_n hC 1 dX11_loopEdge_38 rfl rfl ?_
            refine q_iconst hC dX11_loopEdge_39 rfl ?_
            refine q_isub hC dX11_loopEdge_40 ?_
            refine q_istore_n hC (fun y2_5 => [(2, .int y2_5), (0, .ref x0), (3, .int x3)]) dX11_loopEdge_41 rfl (Nat.le_of_ble_eq_true rfl) (fun _ => rfl) (fun y2_5 => ?_)
            refine q_iincA hC (loc' := [(3, .int (x3 + 1)), (2, .int y2_5), (0, .ref x0)]) 2 1 dX11_loopEdge_42 rfl rfl (Nat.le_of_ble_eq_true rfl) rfl ?_
            refine q_goto hC 4 dX11_loopEdge_45 rfl ?_
            exact c_sub [2, 1, 0] rfl (hJ 1 [.ref x0, .int y2_5, .int (x3 + 1)])
          · refine q_iload_n hC 2 dX11_loopEdge_36 rfl rfl ?_
            exact q_iret hC dX11_loopEdge_37 (Nat.le_of_ble_eq_true rfl) (Nat.le_of_ble_eq_true rfl)
        · refine q_goto hC 42 dX11_loopEdge_29 rfl ?_
          refine q_iincA hC (loc' := [(3, .int (x3 + 1)), (0, .ref x0), (2, .int x2)]) 2 1 dX11_loopEdge_42 rfl rfl (Nat.le_of_ble_eq_true rfl) rfl ?_
          refine q_goto hC 4 dX11_loopEdge_45 rfl ?_
          exact c_sub [1, 2, 0] rfl (hJ 1 [.ref x0, .int x2, .int (x3 + 1)])
  · exact c_no
theorem sX11_loopEdge : Snd yX11_loopEdge (.code yX11_loopEdge cX11_loopEdge 4 (some .int)) rmX11_loopEdge SX11_loopEdge := by
  refine Snd.of lX11_loopEdge (by decide +kernel) (fun _ => rfl) ?_
  intro Γ hC hnt hnm J hJ L a
  match L with
  | 0 => exact pX11_loopEdge_0 hC hnt J hJ a
  | 1 => exact pX11_loopEdge_1 hC hnt J hJ a
  | L + 2 => exact c_no
/-! SpiritWallModel.loops()I -/
theorem dX11_loops_0 : decode cX11_loops 0 = .ok (.aload_n 0, 1) := by decide +kernel
theorem dX11_loops_1 : decode cX11_loops 1 = .ok (.invokevirtual 202, 3) := by decide +kernel
theorem dX11_loops_4 : decode cX11_loops 4 = .ok (.aload_n 0, 1) := by decide +kernel
theorem dX11_loops_5 : decode cX11_loops 5 = .ok (.invokevirtual 205, 3) := by decide +kernel
theorem dX11_loops_8 : decode cX11_loops 8 = .ok (.isub, 1) := by decide +kernel
theorem dX11_loops_9 : decode cX11_loops 9 = .ok (.ireturn, 1) := by decide +kernel
def rmX11_loops : Room := rmk 7 0 0 172
theorem nX11_loops : nameOk yX11_loops 0 = true := by decide +kernel
def bX11_loops_0 (J : JT) : List Value → Sem
  | [.ref x0] =>
    ob 11 x0 (cI SX11_edges [.ref x0] fun v1 =>
    ob 11 x0 (cI SX11_takenEdges [.ref x0] fun v2 =>
    rI (v1 - v2)))
  | _ => no
def bX11_loops (J : JT) : JT := fun L a => match L with
  | 0 => bX11_loops_0 J a
  | _ => no
def SX11_loops : ST := mk 1 bX11_loops
def lX11_loops (L : Nat) (a : List Value) : Nat × Nat × Nat × List (Nat × Value) × List Value := match L with
  | 0 => (0, 0, 0, lv_args 0 a, [])
  | _ => (0, 0, 0, [], [])
theorem pX11_loops_0 {Γ : CT} (hC : Ctx Γ "SpiritWallModel" cX11_loops 1 (some .int) rmX11_loops) (hnt : NT Γ) (J : JT) (hJ : ∀ L a, Cor Γ 1 (lX11_loops L a).1 (lX11_loops L a).2.1 (lX11_loops L a).2.2.1 (lX11_loops L a).2.2.2.1 (lX11_loops L a).2.2.2.2 (J L a)) (a : List Value) : Cor Γ 1 0 0 0 (lv_args 0 a) [] (bX11_loops_0 J a) := by
  unfold bX11_loops_0
  split
  · rename_i x0
    refine c_sub [0] rfl (loc' := [(0, .ref x0)]) ?_
    refine q_aload_n hC 0 dX11_loops_0 rfl rfl ?_
    refine q_cVI hC hnt (stk := []) (as := []) sX11_edges (ci := 11) (by decide) rfl nX11_edges rfl w_963 w_965 w_966 w_830 w_964 (Nat.le_of_ble_eq_true rfl) dX11_loops_1 rfl (fun v1 => ?_)
    refine q_aload_n hC 0 dX11_loops_4 rfl rfl ?_
    refine q_cVI hC hnt (stk := [.int v1]) (as := []) sX11_takenEdges (ci := 11) (by decide) rfl nX11_takenEdges rfl w_967 w_969 w_970 w_830 w_968 (Nat.le_of_ble_eq_true rfl) dX11_loops_5 rfl (fun v2 => ?_)
    refine q_isub hC dX11_loops_8 ?_
    exact q_iret hC dX11_loops_9 (Nat.le_of_ble_eq_true rfl) (Nat.le_of_ble_eq_true rfl)
  · exact c_no
theorem sX11_loops : Snd yX11_loops (.code yX11_loops cX11_loops 1 (some .int)) rmX11_loops SX11_loops := by
  refine Snd.of lX11_loops (by decide +kernel) (fun _ => rfl) ?_
  intro Γ hC hnt hnm J hJ L a
  match L with
  | 0 => exact pX11_loops_0 hC hnt J hJ a
  | L + 1 => exact c_no
/-! SpiritWallModel.goesLoop(I)V -/
theorem dX11_goesLoop_0 : decode cX11_goesLoop 0 = .ok (.aload_n 0, 1) := by decide +kernel
theorem dX11_goesLoop_1 : decode cX11_goesLoop 1 = .ok (.iload_n 1, 1) := by decide +kernel
theorem dX11_goesLoop_2 : decode cX11_goesLoop 2 = .ok (.invokevirtual 208, 3) := by decide +kernel
theorem dX11_goesLoop_5 : decode cX11_goesLoop 5 = .ok (.istore_n 2, 1) := by decide +kernel
theorem dX11_goesLoop_6 : decode cX11_goesLoop 6 = .ok (.aload_n 0, 1) := by decide +kernel
theorem dX11_goesLoop_7 : decode cX11_goesLoop 7 = .ok (.iload_n 2, 1) := by decide +kernel
theorem dX11_goesLoop_8 : decode cX11_goesLoop 8 = .ok (.bipush 12, 2) := by decide +kernel
theorem dX11_goesLoop_10 : decode cX11_goesLoop 10 = .ok (.irem, 1) := by decide +kernel
theorem dX11_goesLoop_11 : decode cX11_goesLoop 11 = .ok (.iload_n 2, 1) := by decide +kernel
theorem dX11_goesLoop_12 : decode cX11_goesLoop 12 = .ok (.bipush 12, 2) := by decide +kernel
theorem dX11_goesLoop_14 : decode cX11_goesLoop 14 = .ok (.idiv, 1) := by decide +kernel
theorem dX11_goesLoop_15 : decode cX11_goesLoop 15 = .ok (.invokevirtual 211, 3) := by decide +kernel
theorem dX11_goesLoop_18 : decode cX11_goesLoop 18 = .ok (.istore_n 3, 1) := by decide +kernel
theorem dX11_goesLoop_19 : decode cX11_goesLoop 19 = .ok (.return_, 1) := by decide +kernel
def rmX11_goesLoop : Room := rmk 22 0 0 529
theorem nX11_goesLoop : nameOk yX11_goesLoop 1 = true := by decide +kernel
def bX11_goesLoop_0 (J : JT) : List Value → Sem
  | [.ref x0, .int x1] =>
    ob 11 x0 (cI SX11_loopEdge [.ref x0, .int x1] fun v1 =>
    nz 12 <|
    nz 12 <|
    ob 11 x0 (cI SX11_findsWay [.ref x0, .int (v1 - v1 / 12 * 12), .int (v1 / 12)] fun v2 =>
    rV))
  | _ => no
def bX11_goesLoop (J : JT) : JT := fun L a => match L with
  | 0 => bX11_goesLoop_0 J a
  | _ => no
def SX11_goesLoop : ST := mk 4 bX11_goesLoop
def lX11_goesLoop (L : Nat) (a : List Value) : Nat × Nat × Nat × List (Nat × Value) × List Value := match L with
  | 0 => (0, 0, 0, lv_args 0 a, [])
  | _ => (0, 0, 0, [], [])
theorem pX11_goesLoop_0 {Γ : CT} (hC : Ctx Γ "SpiritWallModel" cX11_goesLoop 4 none rmX11_goesLoop) (hnt : NT Γ) (J : JT) (hJ : ∀ L a, Cor Γ 4 (lX11_goesLoop L a).1 (lX11_goesLoop L a).2.1 (lX11_goesLoop L a).2.2.1 (lX11_goesLoop L a).2.2.2.1 (lX11_goesLoop L a).2.2.2.2 (J L a)) (a : List Value) : Cor Γ 4 0 0 0 (lv_args 0 a) [] (bX11_goesLoop_0 J a) := by
  unfold bX11_goesLoop_0
  split
  · rename_i x0 x1
    refine c_sub [0, 1] rfl (loc' := [(0, .ref x0), (1, .int x1)]) ?_
    refine q_aload_n hC 0 dX11_goesLoop_0 rfl rfl ?_
    refine q_iload_n hC 1 dX11_goesLoop_1 rfl rfl ?_
    refine q_cVI hC hnt (stk := []) (as := [.int x1]) sX11_loopEdge (ci := 11) (by decide) rfl nX11_loopEdge rfl w_971 w_973 w_974 w_830 w_972 (Nat.le_of_ble_eq_true rfl) dX11_goesLoop_2 rfl (fun v1 => ?_)
    refine q_istore_nA hC (loc' := [(2, .int v1), (0, .ref x0), (1, .int x1)]) dX11_goesLoop_5 rfl (Nat.le_of_ble_eq_true rfl) rfl ?_
    refine q_aload_n hC 1 dX11_goesLoop_6 rfl rfl ?_
    refine q_iload_n hC 0 dX11_goesLoop_7 rfl rfl ?_
    refine q_bipush hC (v := 12) dX11_goesLoop_8 rfl ?_
    refine q_irem hC dX11_goesLoop_10 ?_
    refine q_iload_n hC 0 dX11_goesLoop_11 rfl rfl ?_
    refine q_bipush hC (v := 12) dX11_goesLoop_12 rfl ?_
    refine q_idiv hC dX11_goesLoop_14 ?_
    refine q_cVI hC hnt (stk := []) (as := [.int (v1 - v1 / 12 * 12), .int (v1 / 12)]) sX11_findsWay (ci := 11) (by decide) rfl nX11_findsWay rfl w_975 w_977 w_978 w_830 w_976 (Nat.le_of_ble_eq_true rfl) dX11_goesLoop_15 rfl (fun v2 => ?_)
    refine q_istore_nA hC (loc' := [(3, .int v2), (2, .int v1), (0, .ref x0), (1, .int x1)]) dX11_goesLoop_18 rfl (Nat.le_of_ble_eq_true rfl) rfl ?_
    exact q_vret hC dX11_goesLoop_19 (Nat.le_of_ble_eq_true rfl) (Nat.le_of_ble_eq_true rfl)
  · exact c_no
theorem sX11_goesLoop : Snd yX11_goesLoop (.code yX11_goesLoop cX11_goesLoop 4 none) rmX11_goesLoop SX11_goesLoop := by
  refine Snd.of lX11_goesLoop (by decide +kernel) (fun _ => rfl) ?_
  intro Γ hC hnt hnm J hJ L a
  match L with
  | 0 => exact pX11_goesLoop_0 hC hnt J hJ a
  | L + 1 => exact c_no
/-! SpiritWallModel.misclosure(I)I -/
theorem dX11_misclosure_0 : decode cX11_misclosure 0 = .ok (.aload_n 0, 1) := by decide +kernel
theorem dX11_misclosure_1 : decode cX11_misclosure 1 = .ok (.iload_n 1, 1) := by decide +kernel
theorem dX11_misclosure_2 : decode cX11_misclosure 2 = .ok (.invokevirtual 214, 3) := by decide +kernel
theorem dX11_misclosure_5 : decode cX11_misclosure 5 = .ok (.aload_n 0, 1) := by decide +kernel
theorem dX11_misclosure_6 : decode cX11_misclosure 6 = .ok (.getfield 34, 3) := by decide +kernel
theorem dX11_misclosure_9 : decode cX11_misclosure 9 = .ok (.aload_n 0, 1) := by decide +kernel
theorem dX11_misclosure_10 : decode cX11_misclosure 10 = .ok (.iload_n 1, 1) := by decide +kernel
theorem dX11_misclosure_11 : decode cX11_misclosure 11 = .ok (.invokevirtual 208, 3) := by decide +kernel
theorem dX11_misclosure_14 : decode cX11_misclosure 14 = .ok (.iaload, 1) := by decide +kernel
theorem dX11_misclosure_15 : decode cX11_misclosure 15 = .ok (.aload_n 0, 1) := by decide +kernel
theorem dX11_misclosure_16 : decode cX11_misclosure 16 = .ok (.invokevirtual 218, 3) := by decide +kernel
theorem dX11_misclosure_19 : decode cX11_misclosure 19 = .ok (.iadd, 1) := by decide +kernel
theorem dX11_misclosure_20 : decode cX11_misclosure 20 = .ok (.ireturn, 1) := by decide +kernel
def rmX11_misclosure : Room := rmk 23 0 0 552
theorem nX11_misclosure : nameOk yX11_misclosure 1 = true := by decide +kernel
def bX11_misclosure_0 (J : JT) : List Value → Sem
  | [.ref x0, .int x1] =>
    ob 11 x0 (cV SX11_goesLoop [.ref x0, .int x1] <|
    gR 11 12 x0 fun r1 =>
    ob 11 x0 (cI SX11_loopEdge [.ref x0, .int x1] fun v2 =>
    aI r1 v2 fun v3 =>
    ob 11 x0 (cI SX11_sumOfWay [.ref x0] fun v4 =>
    rI (v3 + v4))))
  | _ => no
def bX11_misclosure (J : JT) : JT := fun L a => match L with
  | 0 => bX11_misclosure_0 J a
  | _ => no
def SX11_misclosure : ST := mk 2 bX11_misclosure
def lX11_misclosure (L : Nat) (a : List Value) : Nat × Nat × Nat × List (Nat × Value) × List Value := match L with
  | 0 => (0, 0, 0, lv_args 0 a, [])
  | _ => (0, 0, 0, [], [])
theorem pX11_misclosure_0 {Γ : CT} (hC : Ctx Γ "SpiritWallModel" cX11_misclosure 2 (some .int) rmX11_misclosure) (hnt : NT Γ) (J : JT) (hJ : ∀ L a, Cor Γ 2 (lX11_misclosure L a).1 (lX11_misclosure L a).2.1 (lX11_misclosure L a).2.2.1 (lX11_misclosure L a).2.2.2.1 (lX11_misclosure L a).2.2.2.2 (J L a)) (a : List Value) : Cor Γ 2 0 0 0 (lv_args 0 a) [] (bX11_misclosure_0 J a) := by
  unfold bX11_misclosure_0
  split
  · rename_i x0 x1
    refine c_sub [0, 1] rfl (loc' := [(0, .ref x0), (1, .int x1)]) ?_
    refine q_aload_n hC 0 dX11_misclosure_0 rfl rfl ?_
    refine q_iload_n hC 1 dX11_misclosure_1 rfl rfl ?_
    refine q_cVV hC hnt (stk := []) (as := [.int x1]) sX11_goesLoop (ci := 11) (by decide) rfl nX11_goesLoop rfl w_979 w_981 w_982 w_830 w_980 (Nat.le_of_ble_eq_true rfl) dX11_misclosure_2 rfl ?_
    refine q_aload_n hC 0 dX11_misclosure_5 rfl rfl ?_
    refine q_getR hC (by decide) (by decide) rfl w_817 dX11_misclosure_6 (fun r1 => ?_)
    refine q_aload_n hC 0 dX11_misclosure_9 rfl rfl ?_
    refine q_iload_n hC 1 dX11_misclosure_10 rfl rfl ?_
    refine q_cVI hC hnt (stk := [.ref r1]) (as := [.int x1]) sX11_loopEdge (ci := 11) (by decide) rfl nX11_loopEdge rfl w_971 w_973 w_974 w_830 w_972 (Nat.le_of_ble_eq_true rfl) dX11_misclosure_11 rfl (fun v2 => ?_)
    refine q_iald hC dX11_misclosure_14 (fun v3 => ?_)
    refine q_aload_n hC 0 dX11_misclosure_15 rfl rfl ?_
    refine q_cVI hC hnt (stk := [.int v3]) (as := []) sX11_sumOfWay (ci := 11) (by decide) rfl nX11_sumOfWay rfl w_983 w_985 w_986 w_830 w_984 (Nat.le_of_ble_eq_true rfl) dX11_misclosure_16 rfl (fun v4 => ?_)
    refine q_iadd hC dX11_misclosure_19 ?_
    exact q_iret hC dX11_misclosure_20 (Nat.le_of_ble_eq_true rfl) (Nat.le_of_ble_eq_true rfl)
  · exact c_no
theorem sX11_misclosure : Snd yX11_misclosure (.code yX11_misclosure cX11_misclosure 2 (some .int)) rmX11_misclosure SX11_misclosure := by
  refine Snd.of lX11_misclosure (by decide +kernel) (fun _ => rfl) ?_
  intro Γ hC hnt hnm J hJ L a
  match L with
  | 0 => exact pX11_misclosure_0 hC hnt J hJ a
  | L + 1 => exact c_no
/-! SpiritWallModel.wayOf(I)I -/
theorem dX11_wayOf_0 : decode cX11_wayOf 0 = .ok (.aload_n 0, 1) := by decide +kernel
theorem dX11_wayOf_1 : decode cX11_wayOf 1 = .ok (.iload_n 1, 1) := by decide +kernel
theorem dX11_wayOf_2 : decode cX11_wayOf 2 = .ok (.invokevirtual 214, 3) := by decide +kernel
theorem dX11_wayOf_5 : decode cX11_wayOf 5 = .ok (.aload_n 0, 1) := by decide +kernel
theorem dX11_wayOf_6 : decode cX11_wayOf 6 = .ok (.iload_n 1, 1) := by decide +kernel
theorem dX11_wayOf_7 : decode cX11_wayOf 7 = .ok (.invokevirtual 208, 3) := by decide +kernel
theorem dX11_wayOf_10 : decode cX11_wayOf 10 = .ok (.istore_n 2, 1) := by decide +kernel
theorem dX11_wayOf_11 : decode cX11_wayOf 11 = .ok (.aload_n 0, 1) := by decide +kernel
theorem dX11_wayOf_12 : decode cX11_wayOf 12 = .ok (.iload_n 2, 1) := by decide +kernel
theorem dX11_wayOf_13 : decode cX11_wayOf 13 = .ok (.bipush 12, 2) := by decide +kernel
theorem dX11_wayOf_15 : decode cX11_wayOf 15 = .ok (.idiv, 1) := by decide +kernel
theorem dX11_wayOf_16 : decode cX11_wayOf 16 = .ok (.iload_n 2, 1) := by decide +kernel
theorem dX11_wayOf_17 : decode cX11_wayOf 17 = .ok (.bipush 12, 2) := by decide +kernel
theorem dX11_wayOf_19 : decode cX11_wayOf 19 = .ok (.irem, 1) := by decide +kernel
theorem dX11_wayOf_20 : decode cX11_wayOf 20 = .ok (.invokevirtual 113, 3) := by decide +kernel
theorem dX11_wayOf_23 : decode cX11_wayOf 23 = .ok (.aload_n 0, 1) := by decide +kernel
theorem dX11_wayOf_24 : decode cX11_wayOf 24 = .ok (.invokevirtual 221, 3) := by decide +kernel
theorem dX11_wayOf_27 : decode cX11_wayOf 27 = .ok (.iadd, 1) := by decide +kernel
theorem dX11_wayOf_28 : decode cX11_wayOf 28 = .ok (.ireturn, 1) := by decide +kernel
def rmX11_wayOf : Room := rmk 23 0 0 552
theorem nX11_wayOf : nameOk yX11_wayOf 1 = true := by decide +kernel
def bX11_wayOf_0 (J : JT) : List Value → Sem
  | [.ref x0, .int x1] =>
    ob 11 x0 (cV SX11_goesLoop [.ref x0, .int x1] <|
    ob 11 x0 (cI SX11_loopEdge [.ref x0, .int x1] fun v1 =>
    nz 12 <|
    nz 12 <|
    ob 11 x0 (cI SX11_distance [.ref x0, .int (v1 / 12), .int (v1 - v1 / 12 * 12)] fun v2 =>
    ob 11 x0 (cI SX11_lengthOfWay [.ref x0] fun v3 =>
    rI (v2 + v3)))))
  | _ => no
def bX11_wayOf (J : JT) : JT := fun L a => match L with
  | 0 => bX11_wayOf_0 J a
  | _ => no
def SX11_wayOf : ST := mk 3 bX11_wayOf
def lX11_wayOf (L : Nat) (a : List Value) : Nat × Nat × Nat × List (Nat × Value) × List Value := match L with
  | 0 => (0, 0, 0, lv_args 0 a, [])
  | _ => (0, 0, 0, [], [])
theorem pX11_wayOf_0 {Γ : CT} (hC : Ctx Γ "SpiritWallModel" cX11_wayOf 3 (some .int) rmX11_wayOf) (hnt : NT Γ) (J : JT) (hJ : ∀ L a, Cor Γ 3 (lX11_wayOf L a).1 (lX11_wayOf L a).2.1 (lX11_wayOf L a).2.2.1 (lX11_wayOf L a).2.2.2.1 (lX11_wayOf L a).2.2.2.2 (J L a)) (a : List Value) : Cor Γ 3 0 0 0 (lv_args 0 a) [] (bX11_wayOf_0 J a) := by
  unfold bX11_wayOf_0
  split
  · rename_i x0 x1
    refine c_sub [0, 1] rfl (loc' := [(0, .ref x0), (1, .int x1)]) ?_
    refine q_aload_n hC 0 dX11_wayOf_0 rfl rfl ?_
    refine q_iload_n hC 1 dX11_wayOf_1 rfl rfl ?_
    refine q_cVV hC hnt (stk := []) (as := [.int x1]) sX11_goesLoop (ci := 11) (by decide) rfl nX11_goesLoop rfl w_979 w_981 w_982 w_830 w_980 (Nat.le_of_ble_eq_true rfl) dX11_wayOf_2 rfl ?_
    refine q_aload_n hC 0 dX11_wayOf_5 rfl rfl ?_
    refine q_iload_n hC 1 dX11_wayOf_6 rfl rfl ?_
    refine q_cVI hC hnt (stk := []) (as := [.int x1]) sX11_loopEdge (ci := 11) (by decide) rfl nX11_loopEdge rfl w_971 w_973 w_974 w_830 w_972 (Nat.le_of_ble_eq_true rfl) dX11_wayOf_7 rfl (fun v1 => ?_)
    refine q_istore_nA hC (loc' := [(2, .int v1), (0, .ref x0), (1, .int x1)]) dX11_wayOf_10 rfl (Nat.le_of_ble_eq_true rfl) rfl ?_
    refine q_aload_n hC 1 dX11_wayOf_11 rfl rfl ?_
    refine q_iload_n hC 0 dX11_wayOf_12 rfl rfl ?_
    refine q_bipush hC (v := 12) dX11_wayOf_13 rfl ?_
    refine q_idiv hC dX11_wayOf_15 ?_
    refine q_iload_n hC 0 dX11_wayOf_16 rfl rfl ?_
    refine q_bipush hC (v := 12) dX11_wayOf_17 rfl ?_
    refine q_irem hC dX11_wayOf_19 ?_
    refine q_cVI hC hnt (stk := []) (as := [.int (v1 / 12), .int (v1 - v1 / 12 * 12)]) sX11_distance (ci := 11) (by decide) rfl nX11_distance rfl w_867 w_869 w_870 w_830 w_868 (Nat.le_of_ble_eq_true rfl) dX11_wayOf_20 rfl (fun v2 => ?_)
    refine q_aload_n hC 1 dX11_wayOf_23 rfl rfl ?_
    refine q_cVI hC hnt (stk := [.int v2]) (as := []) sX11_lengthOfWay (ci := 11) (by decide) rfl nX11_lengthOfWay rfl w_987 w_989 w_990 w_830 w_988 (Nat.le_of_ble_eq_true rfl) dX11_wayOf_24 rfl (fun v3 => ?_)
    refine q_iadd hC dX11_wayOf_27 ?_
    exact q_iret hC dX11_wayOf_28 (Nat.le_of_ble_eq_true rfl) (Nat.le_of_ble_eq_true rfl)
  · exact c_no
theorem sX11_wayOf : Snd yX11_wayOf (.code yX11_wayOf cX11_wayOf 3 (some .int)) rmX11_wayOf SX11_wayOf := by
  refine Snd.of lX11_wayOf (by decide +kernel) (fun _ => rfl) ?_
  intro Γ hC hnt hnm J hJ L a
  match L with
  | 0 => exact pX11_wayOf_0 hC hnt J hJ a
  | L + 1 => exact c_no
/-! SpiritWallModel.closesWith(II)Z -/
theorem dX11_closesWith_0 : decode cX11_closesWith 0 = .ok (.aload_n 0, 1) := by decide +kernel
theorem dX11_closesWith_1 : decode cX11_closesWith 1 = .ok (.iload_n 1, 1) := by decide +kernel
theorem dX11_closesWith_2 : decode cX11_closesWith 2 = .ok (.invokevirtual 224, 3) := by decide +kernel
theorem dX11_closesWith_5 : decode cX11_closesWith 5 = .ok (.i2l, 1) := by decide +kernel
theorem dX11_closesWith_6 : decode cX11_closesWith 6 = .ok (.lstore_n 3, 1) := by decide +kernel
theorem dX11_closesWith_7 : decode cX11_closesWith 7 = .ok (.ldc2_w 227, 3) := by decide +kernel
theorem dX11_closesWith_10 : decode cX11_closesWith 10 = .ok (.lload_n 3, 1) := by decide +kernel
theorem dX11_closesWith_11 : decode cX11_closesWith 11 = .ok (.lmul, 1) := by decide +kernel
theorem dX11_closesWith_12 : decode cX11_closesWith 12 = .ok (.lload_n 3, 1) := by decide +kernel
theorem dX11_closesWith_13 : decode cX11_closesWith 13 = .ok (.lmul, 1) := by decide +kernel
theorem dX11_closesWith_14 : decode cX11_closesWith 14 = .ok (.iload_n 2, 1) := by decide +kernel
theorem dX11_closesWith_15 : decode cX11_closesWith 15 = .ok (.i2l, 1) := by decide +kernel
theorem dX11_closesWith_16 : decode cX11_closesWith 16 = .ok (.iload_n 2, 1) := by decide +kernel
theorem dX11_closesWith_17 : decode cX11_closesWith 17 = .ok (.i2l, 1) := by decide +kernel
theorem dX11_closesWith_18 : decode cX11_closesWith 18 = .ok (.lmul, 1) := by decide +kernel
theorem dX11_closesWith_19 : decode cX11_closesWith 19 = .ok (.aload_n 0, 1) := by decide +kernel
theorem dX11_closesWith_20 : decode cX11_closesWith 20 = .ok (.iload_n 1, 1) := by decide +kernel
theorem dX11_closesWith_21 : decode cX11_closesWith 21 = .ok (.invokevirtual 229, 3) := by decide +kernel
theorem dX11_closesWith_24 : decode cX11_closesWith 24 = .ok (.i2l, 1) := by decide +kernel
theorem dX11_closesWith_25 : decode cX11_closesWith 25 = .ok (.lmul, 1) := by decide +kernel
theorem dX11_closesWith_26 : decode cX11_closesWith 26 = .ok (.lcmp, 1) := by decide +kernel
theorem dX11_closesWith_27 : decode cX11_closesWith 27 = .ok (.ifCond .gt 7, 3) := by decide +kernel
theorem dX11_closesWith_30 : decode cX11_closesWith 30 = .ok (.iconst 1, 1) := by decide +kernel
theorem dX11_closesWith_31 : decode cX11_closesWith 31 = .ok (.goto 4, 3) := by decide +kernel
theorem dX11_closesWith_34 : decode cX11_closesWith 34 = .ok (.iconst 0, 1) := by decide +kernel
theorem dX11_closesWith_35 : decode cX11_closesWith 35 = .ok (.ireturn, 1) := by decide +kernel
def rmX11_closesWith : Room := rmk 24 0 0 574
theorem nX11_closesWith : nameOk yX11_closesWith 2 = true := by decide +kernel
def bX11_closesWith_0 (J : JT) : List Value → Sem
  | [.ref x0, .int x1, .int x2] =>
    ob 11 x0 (cI SX11_misclosure [.ref x0, .int x1] fun v1 =>
    lJ (v1.toInt64) fun y3_2 =>
    ob 11 x0 (cI SX11_wayOf [.ref x0, .int x1] fun v3 =>
    br (0 < (lg_cmp ((1000 * y3_2) * y3_2) (((x2.toInt64) * (x2.toInt64)) * (v3.toInt64))))
    (rZ 0)
    (rZ 1)))
  | _ => no
def bX11_closesWith (J : JT) : JT := fun L a => match L with
  | 0 => bX11_closesWith_0 J a
  | _ => no
def SX11_closesWith : ST := mk 5 bX11_closesWith
def lX11_closesWith (L : Nat) (a : List Value) : Nat × Nat × Nat × List (Nat × Value) × List Value := match L with
  | 0 => (0, 0, 0, lv_args 0 a, [])
  | _ => (0, 0, 0, [], [])
theorem pX11_closesWith_0 {Γ : CT} (hC : Ctx Γ "SpiritWallModel" cX11_closesWith 5 (some .boolean) rmX11_closesWith) (hnt : NT Γ) (J : JT) (hJ : ∀ L a, Cor Γ 5 (lX11_closesWith L a).1 (lX11_closesWith L a).2.1 (lX11_closesWith L a).2.2.1 (lX11_closesWith L a).2.2.2.1 (lX11_closesWith L a).2.2.2.2 (J L a)) (a : List Value) : Cor Γ 5 0 0 0 (lv_args 0 a) [] (bX11_closesWith_0 J a) := by
  unfold bX11_closesWith_0
  split
  · rename_i x0 x1 x2
    refine c_sub [0, 1, 2] rfl (loc' := [(0, .ref x0), (1, .int x1), (2, .int x2)]) ?_
    refine q_aload_n hC 0 dX11_closesWith_0 rfl rfl ?_
    refine q_iload_n hC 1 dX11_closesWith_1 rfl rfl ?_
    refine q_cVI hC hnt (stk := []) (as := [.int x1]) sX11_misclosure (ci := 11) (by decide) rfl nX11_misclosure rfl w_991 w_993 w_994 w_830 w_992 (Nat.le_of_ble_eq_true rfl) dX11_closesWith_2 rfl (fun v1 => ?_)
    refine q_i2l hC dX11_closesWith_5 ?_
    refine q_lstore_n hC (fun y3_2 => [(3, .long y3_2), (0, .ref x0), (1, .int x1), (2, .int x2)]) dX11_closesWith_6 rfl (Nat.le_of_ble_eq_true rfl) (fun _ => rfl) (fun y3_2 => ?_)
    refine q_ldc2 hC w_995 dX11_closesWith_7 ?_
    refine q_lload_n hC 0 dX11_closesWith_10 rfl rfl ?_
    refine q_lmul hC dX11_closesWith_11 ?_
    refine q_lload_n hC 0 dX11_closesWith_12 rfl rfl ?_
    refine q_lmul hC dX11_closesWith_13 ?_
    refine q_iload_n hC 3 dX11_closesWith_14 rfl rfl ?_
    refine q_i2l hC dX11_closesWith_15 ?_
    refine q_iload_n hC 3 dX11_closesWith_16 rfl rfl ?_
    refine q_i2l hC dX11_closesWith_17 ?_
    refine q_lmul hC dX11_closesWith_18 ?_
    refine q_aload_n hC 1 dX11_closesWith_19 rfl rfl ?_
    refine q_iload_n hC 2 dX11_closesWith_20 rfl rfl ?_
    refine q_cVI hC hnt (stk := [.long ((x2.toInt64) * (x2.toInt64)), .long ((1000 * y3_2) * y3_2)]) (as := [.int x1]) sX11_wayOf (ci := 11) (by decide) rfl nX11_wayOf rfl w_996 w_998 w_999 w_830 w_997 (Nat.le_of_ble_eq_true rfl) dX11_closesWith_21 rfl (fun v3 => ?_)
    refine q_i2l hC dX11_closesWith_24 ?_
    refine q_lmul hC dX11_closesWith_25 ?_
    refine q_lcmp hC dX11_closesWith_26 ?_
    refine q_if_gt hC 34 dX11_closesWith_27 rfl ?_ ?_
    · refine q_iconst hC dX11_closesWith_34 rfl ?_
      exact q_zret hC dX11_closesWith_35 (Nat.le_of_ble_eq_true rfl) (Nat.le_of_ble_eq_true rfl)
    · refine q_iconst hC dX11_closesWith_30 rfl ?_
      refine q_goto hC 35 dX11_closesWith_31 rfl ?_
      exact q_zret hC dX11_closesWith_35 (Nat.le_of_ble_eq_true rfl) (Nat.le_of_ble_eq_true rfl)
  · exact c_no
theorem sX11_closesWith : Snd yX11_closesWith (.code yX11_closesWith cX11_closesWith 5 (some .boolean)) rmX11_closesWith SX11_closesWith := by
  refine Snd.of lX11_closesWith (by decide +kernel) (fun _ => rfl) ?_
  intro Γ hC hnt hnm J hJ L a
  match L with
  | 0 => exact pX11_closesWith_0 hC hnt J hJ a
  | L + 1 => exact c_no
/-! SpiritWallModel.closes(I)Z -/
theorem dX11_closes_0 : decode cX11_closes 0 = .ok (.aload_n 0, 1) := by decide +kernel
theorem dX11_closes_1 : decode cX11_closes 1 = .ok (.iload_n 1, 1) := by decide +kernel
theorem dX11_closes_2 : decode cX11_closes 2 = .ok (.aload_n 0, 1) := by decide +kernel
theorem dX11_closes_3 : decode cX11_closes 3 = .ok (.getfield 7, 3) := by decide +kernel
theorem dX11_closes_6 : decode cX11_closes 6 = .ok (.iconst 5, 1) := by decide +kernel
theorem dX11_closes_7 : decode cX11_closes 7 = .ok (.iaload, 1) := by decide +kernel
theorem dX11_closes_8 : decode cX11_closes 8 = .ok (.invokevirtual 232, 3) := by decide +kernel
theorem dX11_closes_11 : decode cX11_closes 11 = .ok (.ireturn, 1) := by decide +kernel
def rmX11_closes : Room := rmk 25 0 0 598
theorem nX11_closes : nameOk yX11_closes 1 = true := by decide +kernel
def bX11_closes_0 (J : JT) : List Value → Sem
  | [.ref x0, .int x1] =>
    gR 11 1 x0 fun r1 =>
    aI r1 5 fun v2 =>
    ob 11 x0 (cI SX11_closesWith [.ref x0, .int x1, .int v2] fun v3 =>
    rZ v3)
  | _ => no
def bX11_closes (J : JT) : JT := fun L a => match L with
  | 0 => bX11_closes_0 J a
  | _ => no
def SX11_closes : ST := mk 2 bX11_closes
def lX11_closes (L : Nat) (a : List Value) : Nat × Nat × Nat × List (Nat × Value) × List Value := match L with
  | 0 => (0, 0, 0, lv_args 0 a, [])
  | _ => (0, 0, 0, [], [])
theorem pX11_closes_0 {Γ : CT} (hC : Ctx Γ "SpiritWallModel" cX11_closes 2 (some .boolean) rmX11_closes) (hnt : NT Γ) (J : JT) (hJ : ∀ L a, Cor Γ 2 (lX11_closes L a).1 (lX11_closes L a).2.1 (lX11_closes L a).2.2.1 (lX11_closes L a).2.2.2.1 (lX11_closes L a).2.2.2.2 (J L a)) (a : List Value) : Cor Γ 2 0 0 0 (lv_args 0 a) [] (bX11_closes_0 J a) := by
  unfold bX11_closes_0
  split
  · rename_i x0 x1
    refine c_sub [0, 1] rfl (loc' := [(0, .ref x0), (1, .int x1)]) ?_
    refine q_aload_n hC 0 dX11_closes_0 rfl rfl ?_
    refine q_iload_n hC 1 dX11_closes_1 rfl rfl ?_
    refine q_aload_n hC 0 dX11_closes_2 rfl rfl ?_
    refine q_getR hC (by decide) (by decide) rfl w_808 dX11_closes_3 (fun r1 => ?_)
    refine q_iconst hC dX11_closes_6 rfl ?_
    refine q_iald hC dX11_closes_7 (fun v2 => ?_)
    refine q_cVI hC hnt (stk := []) (as := [.int x1, .int v2]) sX11_closesWith (ci := 11) (by decide) rfl nX11_closesWith rfl w_1000 w_1002 w_1003 w_830 w_1001 (Nat.le_of_ble_eq_true rfl) dX11_closes_8 rfl (fun v3 => ?_)
    exact q_zret hC dX11_closes_11 (Nat.le_of_ble_eq_true rfl) (Nat.le_of_ble_eq_true rfl)
  · exact c_no
theorem sX11_closes : Snd yX11_closes (.code yX11_closes cX11_closes 2 (some .boolean)) rmX11_closes SX11_closes := by
  refine Snd.of lX11_closes (by decide +kernel) (fun _ => rfl) ?_
  intro Γ hC hnt hnm J hJ L a
  match L with
  | 0 => exact pX11_closes_0 hC hnt J hJ a
  | L + 1 => exact c_no
/-! SpiritWallModel.closing()I -/
theorem dX11_closing_0 : decode cX11_closing 0 = .ok (.iconst 0, 1) := by decide +kernel
theorem dX11_closing_1 : decode cX11_closing 1 = .ok (.istore_n 1, 1) := by decide +kernel
theorem dX11_closing_2 : decode cX11_closing 2 = .ok (.iconst 0, 1) := by decide +kernel
theorem dX11_closing_3 : decode cX11_closing 3 = .ok (.istore_n 2, 1) := by decide +kernel
theorem dX11_closing_4 : decode cX11_closing 4 = .ok (.iload_n 2, 1) := by decide +kernel
theorem dX11_closing_5 : decode cX11_closing 5 = .ok (.aload_n 0, 1) := by decide +kernel
theorem dX11_closing_6 : decode cX11_closing 6 = .ok (.invokevirtual 235, 3) := by decide +kernel
theorem dX11_closing_9 : decode cX11_closing 9 = .ok (.if_icmp .ge 21, 3) := by decide +kernel
theorem dX11_closing_12 : decode cX11_closing 12 = .ok (.aload_n 0, 1) := by decide +kernel
theorem dX11_closing_13 : decode cX11_closing 13 = .ok (.iload_n 2, 1) := by decide +kernel
theorem dX11_closing_14 : decode cX11_closing 14 = .ok (.invokevirtual 238, 3) := by decide +kernel
theorem dX11_closing_17 : decode cX11_closing 17 = .ok (.ifCond .eq 7, 3) := by decide +kernel
theorem dX11_closing_20 : decode cX11_closing 20 = .ok (.iload_n 1, 1) := by decide +kernel
theorem dX11_closing_21 : decode cX11_closing 21 = .ok (.iconst 1, 1) := by decide +kernel
theorem dX11_closing_22 : decode cX11_closing 22 = .ok (.iadd, 1) := by decide +kernel
theorem dX11_closing_23 : decode cX11_closing 23 = .ok (.istore_n 1, 1) := by decide +kernel
theorem dX11_closing_24 : decode cX11_closing 24 = .ok (.iinc 2 1, 3) := by decide +kernel
theorem dX11_closing_27 : decode cX11_closing 27 = .ok (.goto (-23), 3) := by decide +kernel
theorem dX11_closing_30 : decode cX11_closing 30 = .ok (.iload_n 1, 1) := by decide +kernel
theorem dX11_closing_31 : decode cX11_closing 31 = .ok (.ireturn, 1) := by decide +kernel
def rmX11_closing : Room := rmk 26 0 0 619
theorem nX11_closing : nameOk yX11_closing 0 = true := by decide +kernel
def bX11_closing_0 (J : JT) : List Value → Sem
  | [.ref x0] =>
    J 1 [.ref x0, .int 0, .int 0]
  | _ => no
def bX11_closing_1 (J : JT) : List Value → Sem
  | [.ref x0, .int x1, .int x2] =>
    ob 11 x0 (cI SX11_loops [.ref x0] fun v1 =>
    br (v1 ≤ x2)
    (rI x1)
    (ob 11 x0 (cI SX11_closes [.ref x0, .int x2] fun v2 =>
    br (v2 = 0)
    (J 1 [.ref x0, .int x1, .int (x2 + 1)])
    (lI (x1 + 1) fun y1_3 =>
    J 1 [.ref x0, .int y1_3, .int (x2 + 1)]))))
  | _ => no
def bX11_closing (J : JT) : JT := fun L a => match L with
  | 0 => bX11_closing_0 J a
  | 1 => bX11_closing_1 J a
  | _ => no
def SX11_closing : ST := mk 3 bX11_closing
def lX11_closing (L : Nat) (a : List Value) : Nat × Nat × Nat × List (Nat × Value) × List Value := match L with
  | 0 => (0, 0, 0, lv_args 0 a, [])
  | 1 => (0, 0, 4, List.zip [0, 1, 2] a, [])
  | _ => (0, 0, 0, [], [])
theorem pX11_closing_0 {Γ : CT} (hC : Ctx Γ "SpiritWallModel" cX11_closing 3 (some .int) rmX11_closing) (hnt : NT Γ) (J : JT) (hJ : ∀ L a, Cor Γ 3 (lX11_closing L a).1 (lX11_closing L a).2.1 (lX11_closing L a).2.2.1 (lX11_closing L a).2.2.2.1 (lX11_closing L a).2.2.2.2 (J L a)) (a : List Value) : Cor Γ 3 0 0 0 (lv_args 0 a) [] (bX11_closing_0 J a) := by
  unfold bX11_closing_0
  split
  · rename_i x0
    refine c_sub [0] rfl (loc' := [(0, .ref x0)]) ?_
    refine q_iconst hC dX11_closing_0 rfl ?_
    refine q_istore_nA hC (loc' := [(1, .int 0), (0, .ref x0)]) dX11_closing_1 rfl (Nat.le_of_ble_eq_true rfl) rfl ?_
    refine q_iconst hC dX11_closing_2 rfl ?_
    refine q_istore_nA hC (loc' := [(2, .int 0), (1, .int 0), (0, .ref x0)]) dX11_closing_3 rfl (Nat.le_of_ble_eq_true rfl) rfl ?_
    exact c_sub [2, 1, 0] rfl (hJ 1 [.ref x0, .int 0, .int 0])
  · exact c_no
theorem pX11_closing_1 {Γ : CT} (hC : Ctx Γ "SpiritWallModel" cX11_closing 3 (some .int) rmX11_closing) (hnt : NT Γ) (J : JT) (hJ : ∀ L a, Cor Γ 3 (lX11_closing L a).1 (lX11_closing L a).2.1 (lX11_closing L a).2.2.1 (lX11_closing L a).2.2.2.1 (lX11_closing L a).2.2.2.2 (J L a)) (a : List Value) : Cor Γ 3 0 0 4 (List.zip [0, 1, 2] a) [] (bX11_closing_1 J a) := by
  unfold bX11_closing_1
  split
  · rename_i x0 x1 x2
    refine c_sub [0, 1, 2] rfl (loc' := [(0, .ref x0), (1, .int x1), (2, .int x2)]) ?_
    refine q_iload_n hC 2 dX11_closing_4 rfl rfl ?_
    refine q_aload_n hC 0 dX11_closing_5 rfl rfl ?_
    refine q_cVI hC hnt (stk := [.int x2]) (as := []) sX11_loops (ci := 11) (by decide) rfl nX11_loops rfl w_1004 w_1006 w_1007 w_830 w_1005 (Nat.le_of_ble_eq_true rfl) dX11_closing_6 rfl (fun v1 => ?_)
    refine q_ic_ge hC 30 dX11_closing_9 rfl ?_ ?_
    · refine q_iload_n hC 1 dX11_closing_30 rfl rfl ?_
      exact q_iret hC dX11_closing_31 (Nat.le_of_ble_eq_true rfl) (Nat.le_of_ble_eq_true rfl)
    · refine q_aload_n hC 0 dX11_closing_12 rfl rfl ?_
      refine q_iload_n hC 2 dX11_closing_13 rfl rfl ?_
      refine q_cVI hC hnt (stk := []) (as := [.int x2]) sX11_closes (ci := 11) (by decide) rfl nX11_closes rfl w_1008 w_1010 w_1011 w_830 w_1009 (Nat.le_of_ble_eq_true rfl) dX11_closing_14 rfl (fun v2 => ?_)
      refine q_if_eq hC 24 dX11_closing_17 rfl ?_ ?_
      · refine q_iincA hC (loc' := [(2, .int (x2 + 1)), (0, .ref x0), (1, .int x1)]) 2 1 dX11_closing_24 rfl rfl (Nat.le_of_ble_eq_true rfl) rfl ?_
        refine q_goto hC 4 dX11_closing_27 rfl ?_
        exact c_sub [1, 2, 0] rfl (hJ 1 [.ref x0, .int x1, .int (x2 + 1)])
      · refine q_iload_n hC 1 dX11_closing_20 rfl rfl ?_
        refine q_iconst hC dX11_closing_21 rfl ?_
        refine q_iadd hC dX11_closing_22 ?_
        refine q_istore_n hC (fun y1_3 => [(1, .int y1_3), (0, .ref x0), (2, .int x2)]) dX11_closing_23 rfl (Nat.le_of_ble_eq_true rfl) (fun _ => rfl) (fun y1_3 => ?_)
        refine q_iincA hC (loc' := [(2, .int (x2 + 1)), (1, .int y1_3), (0, .ref x0)]) 2 1 dX11_closing_24 rfl rfl (Nat.le_of_ble_eq_true rfl) rfl ?_
        refine q_goto hC 4 dX11_closing_27 rfl ?_
        exact c_sub [2, 1, 0] rfl (hJ 1 [.ref x0, .int y1_3, .int (x2 + 1)])
  · exact c_no
theorem sX11_closing : Snd yX11_closing (.code yX11_closing cX11_closing 3 (some .int)) rmX11_closing SX11_closing := by
  refine Snd.of lX11_closing (by decide +kernel) (fun _ => rfl) ?_
  intro Γ hC hnt hnm J hJ L a
  match L with
  | 0 => exact pX11_closing_0 hC hnt J hJ a
  | 1 => exact pX11_closing_1 hC hnt J hJ a
  | L + 2 => exact c_no
/-! SpiritWallModel.hasEdge(II)Z -/
theorem dX11_hasEdge_0 : decode cX11_hasEdge 0 = .ok (.aload_n 0, 1) := by decide +kernel
theorem dX11_hasEdge_1 : decode cX11_hasEdge 1 = .ok (.iload_n 1, 1) := by decide +kernel
theorem dX11_hasEdge_2 : decode cX11_hasEdge 2 = .ok (.invokevirtual 208, 3) := by decide +kernel
theorem dX11_hasEdge_5 : decode cX11_hasEdge 5 = .ok (.iload_n 2, 1) := by decide +kernel
theorem dX11_hasEdge_6 : decode cX11_hasEdge 6 = .ok (.if_icmp .ne 5, 3) := by decide +kernel
theorem dX11_hasEdge_9 : decode cX11_hasEdge 9 = .ok (.iconst 1, 1) := by decide +kernel
theorem dX11_hasEdge_10 : decode cX11_hasEdge 10 = .ok (.ireturn, 1) := by decide +kernel
theorem dX11_hasEdge_11 : decode cX11_hasEdge 11 = .ok (.aload_n 0, 1) := by decide +kernel
theorem dX11_hasEdge_12 : decode cX11_hasEdge 12 = .ok (.iload_n 1, 1) := by decide +kernel
theorem dX11_hasEdge_13 : decode cX11_hasEdge 13 = .ok (.invokevirtual 214, 3) := by decide +kernel
theorem dX11_hasEdge_16 : decode cX11_hasEdge 16 = .ok (.iconst 1, 1) := by decide +kernel
theorem dX11_hasEdge_17 : decode cX11_hasEdge 17 = .ok (.istore_n 3, 1) := by decide +kernel
theorem dX11_hasEdge_18 : decode cX11_hasEdge 18 = .ok (.iload_n 3, 1) := by decide +kernel
theorem dX11_hasEdge_19 : decode cX11_hasEdge 19 = .ok (.aload_n 0, 1) := by decide +kernel
theorem dX11_hasEdge_20 : decode cX11_hasEdge 20 = .ok (.getfield 192, 3) := by decide +kernel
theorem dX11_hasEdge_23 : decode cX11_hasEdge 23 = .ok (.if_icmp .ge 32, 3) := by decide +kernel
theorem dX11_hasEdge_26 : decode cX11_hasEdge 26 = .ok (.aload_n 0, 1) := by decide +kernel
theorem dX11_hasEdge_27 : decode cX11_hasEdge 27 = .ok (.getfield 47, 3) := by decide +kernel
theorem dX11_hasEdge_30 : decode cX11_hasEdge 30 = .ok (.iload_n 3, 1) := by decide +kernel
theorem dX11_hasEdge_31 : decode cX11_hasEdge 31 = .ok (.iconst 1, 1) := by decide +kernel
theorem dX11_hasEdge_32 : decode cX11_hasEdge 32 = .ok (.isub, 1) := by decide +kernel
theorem dX11_hasEdge_33 : decode cX11_hasEdge 33 = .ok (.iaload, 1) := by decide +kernel
theorem dX11_hasEdge_34 : decode cX11_hasEdge 34 = .ok (.aload_n 0, 1) := by decide +kernel
theorem dX11_hasEdge_35 : decode cX11_hasEdge 35 = .ok (.getfield 47, 3) := by decide +kernel
theorem dX11_hasEdge_38 : decode cX11_hasEdge 38 = .ok (.iload_n 3, 1) := by decide +kernel
theorem dX11_hasEdge_39 : decode cX11_hasEdge 39 = .ok (.iaload, 1) := by decide +kernel
theorem dX11_hasEdge_40 : decode cX11_hasEdge 40 = .ok (.invokestatic 133, 3) := by decide +kernel
theorem dX11_hasEdge_43 : decode cX11_hasEdge 43 = .ok (.iload_n 2, 1) := by decide +kernel
theorem dX11_hasEdge_44 : decode cX11_hasEdge 44 = .ok (.if_icmp .ne 5, 3) := by decide +kernel
theorem dX11_hasEdge_47 : decode cX11_hasEdge 47 = .ok (.iconst 1, 1) := by decide +kernel
theorem dX11_hasEdge_48 : decode cX11_hasEdge 48 = .ok (.ireturn, 1) := by decide +kernel
theorem dX11_hasEdge_49 : decode cX11_hasEdge 49 = .ok (.iinc 3 1, 3) := by decide +kernel
theorem dX11_hasEdge_52 : decode cX11_hasEdge 52 = .ok (.goto (-34), 3) := by decide +kernel
theorem dX11_hasEdge_55 : decode cX11_hasEdge 55 = .ok (.iconst 0, 1) := by decide +kernel
theorem dX11_hasEdge_56 : decode cX11_hasEdge 56 = .ok (.ireturn, 1) := by decide +kernel
def rmX11_hasEdge : Room := rmk 23 0 0 552
theorem nX11_hasEdge : nameOk yX11_hasEdge 2 = true := by decide +kernel
def bX11_hasEdge_0 (J : JT) : List Value → Sem
  | [.ref x0, .int x1, .int x2] =>
    ob 11 x0 (cI SX11_loopEdge [.ref x0, .int x1] fun v1 =>
    br (v1 = x2)
    (rZ 1)
    (ob 11 x0 (cV SX11_goesLoop [.ref x0, .int x1] <|
    J 1 [.ref x0, .int x2, .int 1])))
  | _ => no
def bX11_hasEdge_1 (J : JT) : List Value → Sem
  | [.ref x0, .int x2, .int x3] =>
    gI 11 17 x0 fun v1 =>
    br (v1 ≤ x3)
    (rZ 0)
    (gR 11 16 x0 fun r2 =>
    aI r2 (x3 - 1) fun v3 =>
    gR 11 16 x0 fun r4 =>
    aI r4 x3 fun v5 =>
    cI SX11_pairOf [.int v3, .int v5] fun v6 =>
    br (v6 = x2)
    (rZ 1)
    (J 1 [.ref x0, .int x2, .int (x3 + 1)]))
  | _ => no
def bX11_hasEdge (J : JT) : JT := fun L a => match L with
  | 0 => bX11_hasEdge_0 J a
  | 1 => bX11_hasEdge_1 J a
  | _ => no
def SX11_hasEdge : ST := mk 4 bX11_hasEdge
def lX11_hasEdge (L : Nat) (a : List Value) : Nat × Nat × Nat × List (Nat × Value) × List Value := match L with
  | 0 => (0, 0, 0, lv_args 0 a, [])
  | 1 => (0, 0, 18, List.zip [0, 2, 3] a, [])
  | _ => (0, 0, 0, [], [])
theorem pX11_hasEdge_0 {Γ : CT} (hC : Ctx Γ "SpiritWallModel" cX11_hasEdge 4 (some .boolean) rmX11_hasEdge) (hnt : NT Γ) (J : JT) (hJ : ∀ L a, Cor Γ 4 (lX11_hasEdge L a).1 (lX11_hasEdge L a).2.1 (lX11_hasEdge L a).2.2.1 (lX11_hasEdge L a).2.2.2.1 (lX11_hasEdge L a).2.2.2.2 (J L a)) (a : List Value) : Cor Γ 4 0 0 0 (lv_args 0 a) [] (bX11_hasEdge_0 J a) := by
  unfold bX11_hasEdge_0
  split
  · rename_i x0 x1 x2
    refine c_sub [0, 1, 2] rfl (loc' := [(0, .ref x0), (1, .int x1), (2, .int x2)]) ?_
    refine q_aload_n hC 0 dX11_hasEdge_0 rfl rfl ?_
    refine q_iload_n hC 1 dX11_hasEdge_1 rfl rfl ?_
    refine q_cVI hC hnt (stk := []) (as := [.int x1]) sX11_loopEdge (ci := 11) (by decide) rfl nX11_loopEdge rfl w_971 w_973 w_974 w_830 w_972 (Nat.le_of_ble_eq_true rfl) dX11_hasEdge_2 rfl (fun v1 => ?_)
    refine q_iload_n hC 2 dX11_hasEdge_5 rfl rfl ?_
    refine q_ic_ne hC 11 dX11_hasEdge_6 rfl ?_ ?_
    · refine q_aload_n hC 0 dX11_hasEdge_11 rfl rfl ?_
      refine q_iload_n hC 1 dX11_hasEdge_12 rfl rfl ?_
      refine q_cVV hC hnt (stk := []) (as := [.int x1]) sX11_goesLoop (ci := 11) (by decide) rfl nX11_goesLoop rfl w_979 w_981 w_982 w_830 w_980 (Nat.le_of_ble_eq_true rfl) dX11_hasEdge_13 rfl ?_
      refine q_iconst hC dX11_hasEdge_16 rfl ?_
      refine q_istore_nA hC (loc' := [(3, .int 1), (0, .ref x0), (1, .int x1), (2, .int x2)]) dX11_hasEdge_17 rfl (Nat.le_of_ble_eq_true rfl) rfl ?_
      exact c_sub [1, 3, 0] rfl (hJ 1 [.ref x0, .int x2, .int 1])
    · refine q_iconst hC dX11_hasEdge_9 rfl ?_
      exact q_zret hC dX11_hasEdge_10 (Nat.le_of_ble_eq_true rfl) (Nat.le_of_ble_eq_true rfl)
  · exact c_no
theorem pX11_hasEdge_1 {Γ : CT} (hC : Ctx Γ "SpiritWallModel" cX11_hasEdge 4 (some .boolean) rmX11_hasEdge) (hnt : NT Γ) (J : JT) (hJ : ∀ L a, Cor Γ 4 (lX11_hasEdge L a).1 (lX11_hasEdge L a).2.1 (lX11_hasEdge L a).2.2.1 (lX11_hasEdge L a).2.2.2.1 (lX11_hasEdge L a).2.2.2.2 (J L a)) (a : List Value) : Cor Γ 4 0 0 18 (List.zip [0, 2, 3] a) [] (bX11_hasEdge_1 J a) := by
  unfold bX11_hasEdge_1
  split
  · rename_i x0 x2 x3
    refine c_sub [0, 1, 2] rfl (loc' := [(0, .ref x0), (2, .int x2), (3, .int x3)]) ?_
    refine q_iload_n hC 2 dX11_hasEdge_18 rfl rfl ?_
    refine q_aload_n hC 0 dX11_hasEdge_19 rfl rfl ?_
    refine q_getI hC (by decide) (by decide) rfl w_954 dX11_hasEdge_20 (fun v1 => ?_)
    refine q_ic_ge hC 55 dX11_hasEdge_23 rfl ?_ ?_
    · refine q_iconst hC dX11_hasEdge_55 rfl ?_
      exact q_zret hC dX11_hasEdge_56 (Nat.le_of_ble_eq_true rfl) (Nat.le_of_ble_eq_true rfl)
    · refine q_aload_n hC 0 dX11_hasEdge_26 rfl rfl ?_
      refine q_getR hC (by decide) (by decide) rfl w_821 dX11_hasEdge_27 (fun r2 => ?_)
      refine q_iload_n hC 2 dX11_hasEdge_30 rfl rfl ?_
      refine q_iconst hC dX11_hasEdge_31 rfl ?_
      refine q_isub hC dX11_hasEdge_32 ?_
      refine q_iald hC dX11_hasEdge_33 (fun v3 => ?_)
      refine q_aload_n hC 0 dX11_hasEdge_34 rfl rfl ?_
      refine q_getR hC (by decide) (by decide) rfl w_821 dX11_hasEdge_35 (fun r4 => ?_)
      refine q_iload_n hC 2 dX11_hasEdge_38 rfl rfl ?_
      refine q_iald hC dX11_hasEdge_39 (fun v5 => ?_)
      refine q_cSI hC hnt (stk := []) (as := [.int v3, .int v5]) sX11_pairOf nX11_pairOf rfl w_886 w_888 w_830 w_887 (Nat.le_of_ble_eq_true rfl) dX11_hasEdge_40 rfl (fun v6 => ?_)
      refine q_iload_n hC 1 dX11_hasEdge_43 rfl rfl ?_
      refine q_ic_ne hC 49 dX11_hasEdge_44 rfl ?_ ?_
      · refine q_iincA hC (loc' := [(3, .int (x3 + 1)), (0, .ref x0), (2, .int x2)]) 2 1 dX11_hasEdge_49 rfl rfl (Nat.le_of_ble_eq_true rfl) rfl ?_
        refine q_goto hC 18 dX11_hasEdge_52 rfl ?_
        exact c_sub [1, 2, 0] rfl (hJ 1 [.ref x0, .int x2, .int (x3 + 1)])
      · refine q_iconst hC dX11_hasEdge_47 rfl ?_
        exact q_zret hC dX11_hasEdge_48 (Nat.le_of_ble_eq_true rfl) (Nat.le_of_ble_eq_true rfl)
  · exact c_no
theorem sX11_hasEdge : Snd yX11_hasEdge (.code yX11_hasEdge cX11_hasEdge 4 (some .boolean)) rmX11_hasEdge SX11_hasEdge := by
  refine Snd.of lX11_hasEdge (by decide +kernel) (fun _ => rfl) ?_
  intro Γ hC hnt hnm J hJ L a
  match L with
  | 0 => exact pX11_hasEdge_0 hC hnt J hJ a
  | 1 => exact pX11_hasEdge_1 hC hnt J hJ a
  | L + 2 => exact c_no
/-! SpiritWallModel.isSightOf(II)Z -/
theorem dX11_isSightOf_0 : decode cX11_isSightOf 0 = .ok (.aload_n 0, 1) := by decide +kernel
theorem dX11_isSightOf_1 : decode cX11_isSightOf 1 = .ok (.iload_n 1, 1) := by decide +kernel
theorem dX11_isSightOf_2 : decode cX11_isSightOf 2 = .ok (.iconst 0, 1) := by decide +kernel
theorem dX11_isSightOf_3 : decode cX11_isSightOf 3 = .ok (.invokevirtual 100, 3) := by decide +kernel
theorem dX11_isSightOf_6 : decode cX11_isSightOf 6 = .ok (.iload_n 2, 1) := by decide +kernel
theorem dX11_isSightOf_7 : decode cX11_isSightOf 7 = .ok (.if_icmp .eq 13, 3) := by decide +kernel
theorem dX11_isSightOf_10 : decode cX11_isSightOf 10 = .ok (.aload_n 0, 1) := by decide +kernel
theorem dX11_isSightOf_11 : decode cX11_isSightOf 11 = .ok (.iload_n 1, 1) := by decide +kernel
theorem dX11_isSightOf_12 : decode cX11_isSightOf 12 = .ok (.iconst 1, 1) := by decide +kernel
theorem dX11_isSightOf_13 : decode cX11_isSightOf 13 = .ok (.invokevirtual 100, 3) := by decide +kernel
theorem dX11_isSightOf_16 : decode cX11_isSightOf 16 = .ok (.iload_n 2, 1) := by decide +kernel
theorem dX11_isSightOf_17 : decode cX11_isSightOf 17 = .ok (.if_icmp .ne 7, 3) := by decide +kernel
theorem dX11_isSightOf_20 : decode cX11_isSightOf 20 = .ok (.iconst 1, 1) := by decide +kernel
theorem dX11_isSightOf_21 : decode cX11_isSightOf 21 = .ok (.goto 4, 3) := by decide +kernel
theorem dX11_isSightOf_24 : decode cX11_isSightOf 24 = .ok (.iconst 0, 1) := by decide +kernel
theorem dX11_isSightOf_25 : decode cX11_isSightOf 25 = .ok (.ireturn, 1) := by decide +kernel
def rmX11_isSightOf : Room := rmk 7 0 0 172
theorem nX11_isSightOf : nameOk yX11_isSightOf 2 = true := by decide +kernel
def bX11_isSightOf_0 (J : JT) : List Value → Sem
  | [.ref x0, .int x1, .int x2] =>
    ob 11 x0 (cI SX11_ofSight [.ref x0, .int x1, .int 0] fun v1 =>
    br (v1 = x2)
    (rZ 1)
    (ob 11 x0 (cI SX11_ofSight [.ref x0, .int x1, .int 1] fun v2 =>
    br (v2 = x2)
    (rZ 1)
    (rZ 0))))
  | _ => no
def bX11_isSightOf (J : JT) : JT := fun L a => match L with
  | 0 => bX11_isSightOf_0 J a
  | _ => no
def SX11_isSightOf : ST := mk 3 bX11_isSightOf
def lX11_isSightOf (L : Nat) (a : List Value) : Nat × Nat × Nat × List (Nat × Value) × List Value := match L with
  | 0 => (0, 0, 0, lv_args 0 a, [])
  | _ => (0, 0, 0, [], [])
theorem pX11_isSightOf_0 {Γ : CT} (hC : Ctx Γ "SpiritWallModel" cX11_isSightOf 3 (some .boolean) rmX11_isSightOf) (hnt : NT Γ) (J : JT) (hJ : ∀ L a, Cor Γ 3 (lX11_isSightOf L a).1 (lX11_isSightOf L a).2.1 (lX11_isSightOf L a).2.2.1 (lX11_isSightOf L a).2.2.2.1 (lX11_isSightOf L a).2.2.2.2 (J L a)) (a : List Value) : Cor Γ 3 0 0 0 (lv_args 0 a) [] (bX11_isSightOf_0 J a) := by
  unfold bX11_isSightOf_0
  split
  · rename_i x0 x1 x2
    refine c_sub [0, 1, 2] rfl (loc' := [(0, .ref x0), (1, .int x1), (2, .int x2)]) ?_
    refine q_aload_n hC 0 dX11_isSightOf_0 rfl rfl ?_
    refine q_iload_n hC 1 dX11_isSightOf_1 rfl rfl ?_
    refine q_iconst hC dX11_isSightOf_2 rfl ?_
    refine q_cVI hC hnt (stk := []) (as := [.int x1, .int 0]) sX11_ofSight (ci := 11) (by decide) rfl nX11_ofSight rfl w_858 w_860 w_861 w_830 w_859 (Nat.le_of_ble_eq_true rfl) dX11_isSightOf_3 rfl (fun v1 => ?_)
    refine q_iload_n hC 2 dX11_isSightOf_6 rfl rfl ?_
    refine q_ic_eq hC 20 dX11_isSightOf_7 rfl ?_ ?_
    · refine q_iconst hC dX11_isSightOf_20 rfl ?_
      refine q_goto hC 25 dX11_isSightOf_21 rfl ?_
      exact q_zret hC dX11_isSightOf_25 (Nat.le_of_ble_eq_true rfl) (Nat.le_of_ble_eq_true rfl)
    · refine q_aload_n hC 0 dX11_isSightOf_10 rfl rfl ?_
      refine q_iload_n hC 1 dX11_isSightOf_11 rfl rfl ?_
      refine q_iconst hC dX11_isSightOf_12 rfl ?_
      refine q_cVI hC hnt (stk := []) (as := [.int x1, .int 1]) sX11_ofSight (ci := 11) (by decide) rfl nX11_ofSight rfl w_858 w_860 w_861 w_830 w_859 (Nat.le_of_ble_eq_true rfl) dX11_isSightOf_13 rfl (fun v2 => ?_)
      refine q_iload_n hC 2 dX11_isSightOf_16 rfl rfl ?_
      refine q_ic_ne hC 24 dX11_isSightOf_17 rfl ?_ ?_
      · refine q_iconst hC dX11_isSightOf_24 rfl ?_
        exact q_zret hC dX11_isSightOf_25 (Nat.le_of_ble_eq_true rfl) (Nat.le_of_ble_eq_true rfl)
      · refine q_iconst hC dX11_isSightOf_20 rfl ?_
        refine q_goto hC 25 dX11_isSightOf_21 rfl ?_
        exact q_zret hC dX11_isSightOf_25 (Nat.le_of_ble_eq_true rfl) (Nat.le_of_ble_eq_true rfl)
  · exact c_no
theorem sX11_isSightOf : Snd yX11_isSightOf (.code yX11_isSightOf cX11_isSightOf 3 (some .boolean)) rmX11_isSightOf SX11_isSightOf := by
  refine Snd.of lX11_isSightOf (by decide +kernel) (fun _ => rfl) ?_
  intro Γ hC hnt hnm J hJ L a
  match L with
  | 0 => exact pX11_isSightOf_0 hC hnt J hJ a
  | L + 1 => exact c_no
/-! SpiritWallModel.withHeights()I -/
theorem dX11_withHeights_0 : decode cX11_withHeights 0 = .ok (.iconst 0, 1) := by decide +kernel
theorem dX11_withHeights_1 : decode cX11_withHeights 1 = .ok (.istore_n 1, 1) := by decide +kernel
theorem dX11_withHeights_2 : decode cX11_withHeights 2 = .ok (.iconst 0, 1) := by decide +kernel
theorem dX11_withHeights_3 : decode cX11_withHeights 3 = .ok (.istore_n 2, 1) := by decide +kernel
theorem dX11_withHeights_4 : decode cX11_withHeights 4 = .ok (.iload_n 2, 1) := by decide +kernel
theorem dX11_withHeights_5 : decode cX11_withHeights 5 = .ok (.aload_n 0, 1) := by decide +kernel
theorem dX11_withHeights_6 : decode cX11_withHeights 6 = .ok (.invokevirtual 85, 3) := by decide +kernel
theorem dX11_withHeights_9 : decode cX11_withHeights 9 = .ok (.if_icmp .ge 21, 3) := by decide +kernel
theorem dX11_withHeights_12 : decode cX11_withHeights 12 = .ok (.aload_n 0, 1) := by decide +kernel
theorem dX11_withHeights_13 : decode cX11_withHeights 13 = .ok (.iload_n 2, 1) := by decide +kernel
theorem dX11_withHeights_14 : decode cX11_withHeights 14 = .ok (.invokevirtual 241, 3) := by decide +kernel
theorem dX11_withHeights_17 : decode cX11_withHeights 17 = .ok (.ifCond .eq 7, 3) := by decide +kernel
theorem dX11_withHeights_20 : decode cX11_withHeights 20 = .ok (.iload_n 1, 1) := by decide +kernel
theorem dX11_withHeights_21 : decode cX11_withHeights 21 = .ok (.iconst 1, 1) := by decide +kernel
theorem dX11_withHeights_22 : decode cX11_withHeights 22 = .ok (.iadd, 1) := by decide +kernel
theorem dX11_withHeights_23 : decode cX11_withHeights 23 = .ok (.istore_n 1, 1) := by decide +kernel
theorem dX11_withHeights_24 : decode cX11_withHeights 24 = .ok (.iinc 2 1, 3) := by decide +kernel
theorem dX11_withHeights_27 : decode cX11_withHeights 27 = .ok (.goto (-23), 3) := by decide +kernel
theorem dX11_withHeights_30 : decode cX11_withHeights 30 = .ok (.iload_n 1, 1) := by decide +kernel
theorem dX11_withHeights_31 : decode cX11_withHeights 31 = .ok (.ireturn, 1) := by decide +kernel
def rmX11_withHeights : Room := rmk 8 0 0 193
theorem nX11_withHeights : nameOk yX11_withHeights 0 = true := by decide +kernel
def bX11_withHeights_0 (J : JT) : List Value → Sem
  | [.ref x0] =>
    J 1 [.ref x0, .int 0, .int 0]
  | _ => no
def bX11_withHeights_1 (J : JT) : List Value → Sem
  | [.ref x0, .int x1, .int x2] =>
    ob 11 x0 (cI SX11_marks [.ref x0] fun v1 =>
    br (v1 ≤ x2)
    (rI x1)
    (ob 11 x0 (cI SX11_hasHeight [.ref x0, .int x2] fun v2 =>
    br (v2 = 0)
    (J 1 [.ref x0, .int x1, .int (x2 + 1)])
    (lI (x1 + 1) fun y1_3 =>
    J 1 [.ref x0, .int y1_3, .int (x2 + 1)]))))
  | _ => no
def bX11_withHeights (J : JT) : JT := fun L a => match L with
  | 0 => bX11_withHeights_0 J a
  | 1 => bX11_withHeights_1 J a
  | _ => no
def SX11_withHeights : ST := mk 3 bX11_withHeights
def lX11_withHeights (L : Nat) (a : List Value) : Nat × Nat × Nat × List (Nat × Value) × List Value := match L with
  | 0 => (0, 0, 0, lv_args 0 a, [])
  | 1 => (0, 0, 4, List.zip [0, 1, 2] a, [])
  | _ => (0, 0, 0, [], [])
theorem pX11_withHeights_0 {Γ : CT} (hC : Ctx Γ "SpiritWallModel" cX11_withHeights 3 (some .int) rmX11_withHeights) (hnt : NT Γ) (J : JT) (hJ : ∀ L a, Cor Γ 3 (lX11_withHeights L a).1 (lX11_withHeights L a).2.1 (lX11_withHeights L a).2.2.1 (lX11_withHeights L a).2.2.2.1 (lX11_withHeights L a).2.2.2.2 (J L a)) (a : List Value) : Cor Γ 3 0 0 0 (lv_args 0 a) [] (bX11_withHeights_0 J a) := by
  unfold bX11_withHeights_0
  split
  · rename_i x0
    refine c_sub [0] rfl (loc' := [(0, .ref x0)]) ?_
    refine q_iconst hC dX11_withHeights_0 rfl ?_
    refine q_istore_nA hC (loc' := [(1, .int 0), (0, .ref x0)]) dX11_withHeights_1 rfl (Nat.le_of_ble_eq_true rfl) rfl ?_
    refine q_iconst hC dX11_withHeights_2 rfl ?_
    refine q_istore_nA hC (loc' := [(2, .int 0), (1, .int 0), (0, .ref x0)]) dX11_withHeights_3 rfl (Nat.le_of_ble_eq_true rfl) rfl ?_
    exact c_sub [2, 1, 0] rfl (hJ 1 [.ref x0, .int 0, .int 0])
  · exact c_no
theorem pX11_withHeights_1 {Γ : CT} (hC : Ctx Γ "SpiritWallModel" cX11_withHeights 3 (some .int) rmX11_withHeights) (hnt : NT Γ) (J : JT) (hJ : ∀ L a, Cor Γ 3 (lX11_withHeights L a).1 (lX11_withHeights L a).2.1 (lX11_withHeights L a).2.2.1 (lX11_withHeights L a).2.2.2.1 (lX11_withHeights L a).2.2.2.2 (J L a)) (a : List Value) : Cor Γ 3 0 0 4 (List.zip [0, 1, 2] a) [] (bX11_withHeights_1 J a) := by
  unfold bX11_withHeights_1
  split
  · rename_i x0 x1 x2
    refine c_sub [0, 1, 2] rfl (loc' := [(0, .ref x0), (1, .int x1), (2, .int x2)]) ?_
    refine q_iload_n hC 2 dX11_withHeights_4 rfl rfl ?_
    refine q_aload_n hC 0 dX11_withHeights_5 rfl rfl ?_
    refine q_cVI hC hnt (stk := [.int x2]) (as := []) sX11_marks (ci := 11) (by decide) rfl nX11_marks rfl w_843 w_845 w_846 w_830 w_844 (Nat.le_of_ble_eq_true rfl) dX11_withHeights_6 rfl (fun v1 => ?_)
    refine q_ic_ge hC 30 dX11_withHeights_9 rfl ?_ ?_
    · refine q_iload_n hC 1 dX11_withHeights_30 rfl rfl ?_
      exact q_iret hC dX11_withHeights_31 (Nat.le_of_ble_eq_true rfl) (Nat.le_of_ble_eq_true rfl)
    · refine q_aload_n hC 0 dX11_withHeights_12 rfl rfl ?_
      refine q_iload_n hC 2 dX11_withHeights_13 rfl rfl ?_
      refine q_cVI hC hnt (stk := []) (as := [.int x2]) sX11_hasHeight (ci := 11) (by decide) rfl nX11_hasHeight rfl w_1012 w_1014 w_1015 w_830 w_1013 (Nat.le_of_ble_eq_true rfl) dX11_withHeights_14 rfl (fun v2 => ?_)
      refine q_if_eq hC 24 dX11_withHeights_17 rfl ?_ ?_
      · refine q_iincA hC (loc' := [(2, .int (x2 + 1)), (0, .ref x0), (1, .int x1)]) 2 1 dX11_withHeights_24 rfl rfl (Nat.le_of_ble_eq_true rfl) rfl ?_
        refine q_goto hC 4 dX11_withHeights_27 rfl ?_
        exact c_sub [1, 2, 0] rfl (hJ 1 [.ref x0, .int x1, .int (x2 + 1)])
      · refine q_iload_n hC 1 dX11_withHeights_20 rfl rfl ?_
        refine q_iconst hC dX11_withHeights_21 rfl ?_
        refine q_iadd hC dX11_withHeights_22 ?_
        refine q_istore_n hC (fun y1_3 => [(1, .int y1_3), (0, .ref x0), (2, .int x2)]) dX11_withHeights_23 rfl (Nat.le_of_ble_eq_true rfl) (fun _ => rfl) (fun y1_3 => ?_)
        refine q_iincA hC (loc' := [(2, .int (x2 + 1)), (1, .int y1_3), (0, .ref x0)]) 2 1 dX11_withHeights_24 rfl rfl (Nat.le_of_ble_eq_true rfl) rfl ?_
        refine q_goto hC 4 dX11_withHeights_27 rfl ?_
        exact c_sub [2, 1, 0] rfl (hJ 1 [.ref x0, .int y1_3, .int (x2 + 1)])
  · exact c_no
theorem sX11_withHeights : Snd yX11_withHeights (.code yX11_withHeights cX11_withHeights 3 (some .int)) rmX11_withHeights SX11_withHeights := by
  refine Snd.of lX11_withHeights (by decide +kernel) (fun _ => rfl) ?_
  intro Γ hC hnt hnm J hJ L a
  match L with
  | 0 => exact pX11_withHeights_0 hC hnt J hJ a
  | 1 => exact pX11_withHeights_1 hC hnt J hJ a
  | L + 2 => exact c_no
/-! SpiritWallModel.nextHeight()I -/
theorem dX11_nextHeight_0 : decode cX11_nextHeight 0 = .ok (.iconst (-1), 1) := by decide +kernel
theorem dX11_nextHeight_1 : decode cX11_nextHeight 1 = .ok (.istore_n 1, 1) := by decide +kernel
theorem dX11_nextHeight_2 : decode cX11_nextHeight 2 = .ok (.iconst 0, 1) := by decide +kernel
theorem dX11_nextHeight_3 : decode cX11_nextHeight 3 = .ok (.istore_n 2, 1) := by decide +kernel
theorem dX11_nextHeight_4 : decode cX11_nextHeight 4 = .ok (.iload_n 2, 1) := by decide +kernel
theorem dX11_nextHeight_5 : decode cX11_nextHeight 5 = .ok (.aload_n 0, 1) := by decide +kernel
theorem dX11_nextHeight_6 : decode cX11_nextHeight 6 = .ok (.invokevirtual 85, 3) := by decide +kernel
theorem dX11_nextHeight_9 : decode cX11_nextHeight 9 = .ok (.if_icmp .ge 103, 3) := by decide +kernel
theorem dX11_nextHeight_12 : decode cX11_nextHeight 12 = .ok (.iconst 0, 1) := by decide +kernel
theorem dX11_nextHeight_13 : decode cX11_nextHeight 13 = .ok (.istore_n 3, 1) := by decide +kernel
theorem dX11_nextHeight_14 : decode cX11_nextHeight 14 = .ok (.iload_n 3, 1) := by decide +kernel
theorem dX11_nextHeight_15 : decode cX11_nextHeight 15 = .ok (.aload_n 0, 1) := by decide +kernel
theorem dX11_nextHeight_16 : decode cX11_nextHeight 16 = .ok (.invokevirtual 85, 3) := by decide +kernel
theorem dX11_nextHeight_19 : decode cX11_nextHeight 19 = .ok (.if_icmp .ge 87, 3) := by decide +kernel
theorem dX11_nextHeight_22 : decode cX11_nextHeight 22 = .ok (.aload_n 0, 1) := by decide +kernel
theorem dX11_nextHeight_23 : decode cX11_nextHeight 23 = .ok (.iload_n 2, 1) := by decide +kernel
theorem dX11_nextHeight_24 : decode cX11_nextHeight 24 = .ok (.invokevirtual 241, 3) := by decide +kernel
theorem dX11_nextHeight_27 : decode cX11_nextHeight 27 = .ok (.ifCond .ne 73, 3) := by decide +kernel
theorem dX11_nextHeight_30 : decode cX11_nextHeight 30 = .ok (.aload_n 0, 1) := by decide +kernel
theorem dX11_nextHeight_31 : decode cX11_nextHeight 31 = .ok (.iload_n 3, 1) := by decide +kernel
theorem dX11_nextHeight_32 : decode cX11_nextHeight 32 = .ok (.invokevirtual 241, 3) := by decide +kernel
theorem dX11_nextHeight_35 : decode cX11_nextHeight 35 = .ok (.ifCond .eq 65, 3) := by decide +kernel
theorem dX11_nextHeight_38 : decode cX11_nextHeight 38 = .ok (.aload_n 0, 1) := by decide +kernel
theorem dX11_nextHeight_39 : decode cX11_nextHeight 39 = .ok (.iload_n 3, 1) := by decide +kernel
theorem dX11_nextHeight_40 : decode cX11_nextHeight 40 = .ok (.iload_n 2, 1) := by decide +kernel
theorem dX11_nextHeight_41 : decode cX11_nextHeight 41 = .ok (.invokevirtual 173, 3) := by decide +kernel
theorem dX11_nextHeight_44 : decode cX11_nextHeight 44 = .ok (.ifCond .ne 6, 3) := by decide +kernel
theorem dX11_nextHeight_47 : decode cX11_nextHeight 47 = .ok (.goto 53, 3) := by decide +kernel
theorem dX11_nextHeight_50 : decode cX11_nextHeight 50 = .ok (.iload_n 1, 1) := by decide +kernel
theorem dX11_nextHeight_51 : decode cX11_nextHeight 51 = .ok (.iconst (-1), 1) := by decide +kernel
theorem dX11_nextHeight_52 : decode cX11_nextHeight 52 = .ok (.if_icmp .eq 41, 3) := by decide +kernel
theorem dX11_nextHeight_55 : decode cX11_nextHeight 55 = .ok (.aload_n 0, 1) := by decide +kernel
theorem dX11_nextHeight_56 : decode cX11_nextHeight 56 = .ok (.getfield 50, 3) := by decide +kernel
theorem dX11_nextHeight_59 : decode cX11_nextHeight 59 = .ok (.iload_n 3, 1) := by decide +kernel
theorem dX11_nextHeight_60 : decode cX11_nextHeight 60 = .ok (.iaload, 1) := by decide +kernel
theorem dX11_nextHeight_61 : decode cX11_nextHeight 61 = .ok (.aload_n 0, 1) := by decide +kernel
theorem dX11_nextHeight_62 : decode cX11_nextHeight 62 = .ok (.iload_n 3, 1) := by decide +kernel
theorem dX11_nextHeight_63 : decode cX11_nextHeight 63 = .ok (.iload_n 2, 1) := by decide +kernel
theorem dX11_nextHeight_64 : decode cX11_nextHeight 64 = .ok (.invokevirtual 113, 3) := by decide +kernel
theorem dX11_nextHeight_67 : decode cX11_nextHeight 67 = .ok (.iadd, 1) := by decide +kernel
theorem dX11_nextHeight_68 : decode cX11_nextHeight 68 = .ok (.aload_n 0, 1) := by decide +kernel
theorem dX11_nextHeight_69 : decode cX11_nextHeight 69 = .ok (.getfield 50, 3) := by decide +kernel
theorem dX11_nextHeight_72 : decode cX11_nextHeight 72 = .ok (.iload_n 1, 1) := by decide +kernel
theorem dX11_nextHeight_73 : decode cX11_nextHeight 73 = .ok (.bipush 12, 2) := by decide +kernel
theorem dX11_nextHeight_75 : decode cX11_nextHeight 75 = .ok (.irem, 1) := by decide +kernel
theorem dX11_nextHeight_76 : decode cX11_nextHeight 76 = .ok (.iaload, 1) := by decide +kernel
theorem dX11_nextHeight_77 : decode cX11_nextHeight 77 = .ok (.aload_n 0, 1) := by decide +kernel
theorem dX11_nextHeight_78 : decode cX11_nextHeight 78 = .ok (.iload_n 1, 1) := by decide +kernel
theorem dX11_nextHeight_79 : decode cX11_nextHeight 79 = .ok (.bipush 12, 2) := by decide +kernel
theorem dX11_nextHeight_81 : decode cX11_nextHeight 81 = .ok (.irem, 1) := by decide +kernel
theorem dX11_nextHeight_82 : decode cX11_nextHeight 82 = .ok (.iload_n 1, 1) := by decide +kernel
theorem dX11_nextHeight_83 : decode cX11_nextHeight 83 = .ok (.bipush 12, 2) := by decide +kernel
theorem dX11_nextHeight_85 : decode cX11_nextHeight 85 = .ok (.idiv, 1) := by decide +kernel
theorem dX11_nextHeight_86 : decode cX11_nextHeight 86 = .ok (.invokevirtual 113, 3) := by decide +kernel
theorem dX11_nextHeight_89 : decode cX11_nextHeight 89 = .ok (.iadd, 1) := by decide +kernel
theorem dX11_nextHeight_90 : decode cX11_nextHeight 90 = .ok (.if_icmp .ge 10, 3) := by decide +kernel
theorem dX11_nextHeight_93 : decode cX11_nextHeight 93 = .ok (.bipush 12, 2) := by decide +kernel
theorem dX11_nextHeight_95 : decode cX11_nextHeight 95 = .ok (.iload_n 2, 1) := by decide +kernel
theorem dX11_nextHeight_96 : decode cX11_nextHeight 96 = .ok (.imul, 1) := by decide +kernel
theorem dX11_nextHeight_97 : decode cX11_nextHeight 97 = .ok (.iload_n 3, 1) := by decide +kernel
theorem dX11_nextHeight_98 : decode cX11_nextHeight 98 = .ok (.iadd, 1) := by decide +kernel
theorem dX11_nextHeight_99 : decode cX11_nextHeight 99 = .ok (.istore_n 1, 1) := by decide +kernel
theorem dX11_nextHeight_100 : decode cX11_nextHeight 100 = .ok (.iinc 3 1, 3) := by decide +kernel
theorem dX11_nextHeight_103 : decode cX11_nextHeight 103 = .ok (.goto (-89), 3) := by decide +kernel
theorem dX11_nextHeight_106 : decode cX11_nextHeight 106 = .ok (.iinc 2 1, 3) := by decide +kernel
theorem dX11_nextHeight_109 : decode cX11_nextHeight 109 = .ok (.goto (-105), 3) := by decide +kernel
theorem dX11_nextHeight_112 : decode cX11_nextHeight 112 = .ok (.iload_n 1, 1) := by decide +kernel
theorem dX11_nextHeight_113 : decode cX11_nextHeight 113 = .ok (.ireturn, 1) := by decide +kernel
def rmX11_nextHeight : Room := rmk 8 0 0 194
theorem nX11_nextHeight : nameOk yX11_nextHeight 0 = true := by decide +kernel
def bX11_nextHeight_0 (J : JT) : List Value → Sem
  | [.ref x0] =>
    J 1 [.ref x0, .int (-1), .int 0]
  | _ => no
def bX11_nextHeight_1 (J : JT) : List Value → Sem
  | [.ref x0, .int x1, .int x2] =>
    ob 11 x0 (cI SX11_marks [.ref x0] fun v1 =>
    br (v1 ≤ x2)
    (rI x1)
    (J 2 [.ref x0, .int x1, .int x2, .int 0]))
  | _ => no
def bX11_nextHeight_2 (J : JT) : List Value → Sem
  | [.ref x0, .int x1, .int x2, .int x3] =>
    ob 11 x0 (cI SX11_marks [.ref x0] fun v1 =>
    br (v1 ≤ x3)
    (J 1 [.ref x0, .int x1, .int (x2 + 1)])
    (ob 11 x0 (cI SX11_hasHeight [.ref x0, .int x2] fun v2 =>
    br (v2 = 0)
    (ob 11 x0 (cI SX11_hasHeight [.ref x0, .int x3] fun v3 =>
    br (v3 = 0)
    (J 2 [.ref x0, .int x1, .int x2, .int (x3 + 1)])
    (ob 11 x0 (cI SX11_isEdge [.ref x0, .int x3, .int x2] fun v4 =>
    br (v4 = 0)
    (J 2 [.ref x0, .int x1, .int x2, .int (x3 + 1)])
    (br (x1 = ((-1) : Int32))
    (lI ((12 * x2) + x3) fun y1_5 =>
    J 2 [.ref x0, .int y1_5, .int x2, .int (x3 + 1)])
    (gR 11 18 x0 fun r6 =>
    aI r6 x3 fun v7 =>
    ob 11 x0 (cI SX11_distance [.ref x0, .int x3, .int x2] fun v8 =>
    gR 11 18 x0 fun r9 =>
    nz 12 <|
    aI r9 (x1 - x1 / 12 * 12) fun v10 =>
    nz 12 <|
    nz 12 <|
    ob 11 x0 (cI SX11_distance [.ref x0, .int (x1 - x1 / 12 * 12), .int (x1 / 12)] fun v11 =>
    br ((v10 + v11) ≤ (v7 + v8))
    (J 2 [.ref x0, .int x1, .int x2, .int (x3 + 1)])
    (lI ((12 * x2) + x3) fun y1_12 =>
    J 2 [.ref x0, .int y1_12, .int x2, .int (x3 + 1)])))))))))
    (J 2 [.ref x0, .int x1, .int x2, .int (x3 + 1)]))))
  | _ => no
def bX11_nextHeight (J : JT) : JT := fun L a => match L with
  | 0 => bX11_nextHeight_0 J a
  | 1 => bX11_nextHeight_1 J a
  | 2 => bX11_nextHeight_2 J a
  | _ => no
def SX11_nextHeight : ST := mk 4 bX11_nextHeight
def lX11_nextHeight (L : Nat) (a : List Value) : Nat × Nat × Nat × List (Nat × Value) × List Value := match L with
  | 0 => (0, 0, 0, lv_args 0 a, [])
  | 1 => (0, 0, 4, List.zip [0, 1, 2] a, [])
  | 2 => (0, 0, 14, List.zip [0, 1, 2, 3] a, [])
  | _ => (0, 0, 0, [], [])
theorem pX11_nextHeight_0 {Γ : CT} (hC : Ctx Γ "SpiritWallModel" cX11_nextHeight 4 (some .int) rmX11_nextHeight) (hnt : NT Γ) (J : JT) (hJ : ∀ L a, Cor Γ 4 (lX11_nextHeight L a).1 (lX11_nextHeight L a).2.1 (lX11_nextHeight L a).2.2.1 (lX11_nextHeight L a).2.2.2.1 (lX11_nextHeight L a).2.2.2.2 (J L a)) (a : List Value) : Cor Γ 4 0 0 0 (lv_args 0 a) [] (bX11_nextHeight_0 J a) := by
  unfold bX11_nextHeight_0
  split
  · rename_i x0
    refine c_sub [0] rfl (loc' := [(0, .ref x0)]) ?_
    refine q_iconst hC dX11_nextHeight_0 rfl ?_
    refine q_istore_nA hC (loc' := [(1, .int (-1)), (0, .ref x0)]) dX11_nextHeight_1 rfl (Nat.le_of_ble_eq_true rfl) rfl ?_
    refine q_iconst hC dX11_nextHeight_2 rfl ?_
    refine q_istore_nA hC (loc' := [(2, .int 0), (1, .int (-1)), (0, .ref x0)]) dX11_nextHeight_3 rfl (Nat.le_of_ble_eq_true rfl) rfl ?_
    exact c_sub [2, 1, 0] rfl (hJ 1 [.ref x0, .int (-1), .int 0])
  · exact c_no
theorem pX11_nextHeight_1 {Γ : CT} (hC : Ctx Γ "SpiritWallModel" cX11_nextHeight 4 (some .int) rmX11_nextHeight) (hnt : NT Γ) (J : JT) (hJ : ∀ L a, Cor Γ 4 (lX11_nextHeight L a).1 (lX11_nextHeight L a).2.1 (lX11_nextHeight L a).2.2.1 (lX11_nextHeight L a).2.2.2.1 (lX11_nextHeight L a).2.2.2.2 (J L a)) (a : List Value) : Cor Γ 4 0 0 4 (List.zip [0, 1, 2] a) [] (bX11_nextHeight_1 J a) := by
  unfold bX11_nextHeight_1
  split
  · rename_i x0 x1 x2
    refine c_sub [0, 1, 2] rfl (loc' := [(0, .ref x0), (1, .int x1), (2, .int x2)]) ?_
    refine q_iload_n hC 2 dX11_nextHeight_4 rfl rfl ?_
    refine q_aload_n hC 0 dX11_nextHeight_5 rfl rfl ?_
    refine q_cVI hC hnt (stk := [.int x2]) (as := []) sX11_marks (ci := 11) (by decide) rfl nX11_marks rfl w_843 w_845 w_846 w_830 w_844 (Nat.le_of_ble_eq_true rfl) dX11_nextHeight_6 rfl (fun v1 => ?_)
    refine q_ic_ge hC 112 dX11_nextHeight_9 rfl ?_ ?_
    · refine q_iload_n hC 1 dX11_nextHeight_112 rfl rfl ?_
      exact q_iret hC dX11_nextHeight_113 (Nat.le_of_ble_eq_true rfl) (Nat.le_of_ble_eq_true rfl)
    · refine q_iconst hC dX11_nextHeight_12 rfl ?_
      refine q_istore_nA hC (loc' := [(3, .int 0), (0, .ref x0), (1, .int x1), (2, .int x2)]) dX11_nextHeight_13 rfl (Nat.le_of_ble_eq_true rfl) rfl ?_
      exact c_sub [1, 2, 3, 0] rfl (hJ 2 [.ref x0, .int x1, .int x2, .int 0])
  · exact c_no
theorem pX11_nextHeight_2 {Γ : CT} (hC : Ctx Γ "SpiritWallModel" cX11_nextHeight 4 (some .int) rmX11_nextHeight) (hnt : NT Γ) (J : JT) (hJ : ∀ L a, Cor Γ 4 (lX11_nextHeight L a).1 (lX11_nextHeight L a).2.1 (lX11_nextHeight L a).2.2.1 (lX11_nextHeight L a).2.2.2.1 (lX11_nextHeight L a).2.2.2.2 (J L a)) (a : List Value) : Cor Γ 4 0 0 14 (List.zip [0, 1, 2, 3] a) [] (bX11_nextHeight_2 J a) := by
  unfold bX11_nextHeight_2
  split
  · rename_i x0 x1 x2 x3
    refine c_sub [0, 1, 2, 3] rfl (loc' := [(0, .ref x0), (1, .int x1), (2, .int x2), (3, .int x3)]) ?_
    refine q_iload_n hC 3 dX11_nextHeight_14 rfl rfl ?_
    refine q_aload_n hC 0 dX11_nextHeight_15 rfl rfl ?_
    refine q_cVI hC hnt (stk := [.int x3]) (as := []) sX11_marks (ci := 11) (by decide) rfl nX11_marks rfl w_843 w_845 w_846 w_830 w_844 (Nat.le_of_ble_eq_true rfl) dX11_nextHeight_16 rfl (fun v1 => ?_)
    refine q_ic_ge hC 106 dX11_nextHeight_19 rfl ?_ ?_
    · refine q_iincA hC (loc' := [(2, .int (x2 + 1)), (0, .ref x0), (1, .int x1), (3, .int x3)]) 2 1 dX11_nextHeight_106 rfl rfl (Nat.le_of_ble_eq_true rfl) rfl ?_
      refine q_goto hC 4 dX11_nextHeight_109 rfl ?_
      exact c_sub [1, 2, 0] rfl (hJ 1 [.ref x0, .int x1, .int (x2 + 1)])
    · refine q_aload_n hC 0 dX11_nextHeight_22 rfl rfl ?_
      refine q_iload_n hC 2 dX11_nextHeight_23 rfl rfl ?_
      refine q_cVI hC hnt (stk := []) (as := [.int x2]) sX11_hasHeight (ci := 11) (by decide) rfl nX11_hasHeight rfl w_1012 w_1014 w_1015 w_830 w_1013 (Nat.le_of_ble_eq_true rfl) dX11_nextHeight_24 rfl (fun v2 => ?_)
      refine q_if_ne hC 100 dX11_nextHeight_27 rfl ?_ ?_
      · refine q_iincA hC (loc' := [(3, .int (x3 + 1)), (0, .ref x0), (1, .int x1), (2, .int x2)]) 3 1 dX11_nextHeight_100 rfl rfl (Nat.le_of_ble_eq_true rfl) rfl ?_
        refine q_goto hC 14 dX11_nextHeight_103 rfl ?_
        exact c_sub [1, 2, 3, 0] rfl (hJ 2 [.ref x0, .int x1, .int x2, .int (x3 + 1)])
      · refine q_aload_n hC 0 dX11_nextHeight_30 rfl rfl ?_
        refine q_iload_n hC 3 dX11_nextHeight_31 rfl rfl ?_
        refine q_cVI hC hnt (stk := []) (as := [.int x3]) sX11_hasHeight (ci := 11) (by decide) rfl nX11_hasHeight rfl w_1012 w_1014 w_1015 w_830 w_1013 (Nat.le_of_ble_eq_true rfl) dX11_nextHeight_32 rfl (fun v3 => ?_)
        refine q_if_eq hC 100 dX11_nextHeight_35 rfl ?_ ?_
        · refine q_iincA hC (loc' := [(3, .int (x3 + 1)), (0, .ref x0), (1, .int x1), (2, .int x2)]) 3 1 dX11_nextHeight_100 rfl rfl (Nat.le_of_ble_eq_true rfl) rfl ?_
          refine q_goto hC 14 dX11_nextHeight_103 rfl ?_
          exact c_sub [1, 2, 3, 0] rfl (hJ 2 [.ref x0, .int x1, .int x2, .int (x3 + 1)])
        · refine q_aload_n hC 0 dX11_nextHeight_38 rfl rfl ?_
          refine q_iload_n hC 3 dX11_nextHeight_39 rfl rfl ?_
          refine q_iload_n hC 2 dX11_nextHeight_40 rfl rfl ?_
          refine q_cVI hC hnt (stk := []) (as := [.int x3, .int x2]) sX11_isEdge (ci := 11) (by decide) rfl nX11_isEdge rfl w_932 w_934 w_935 w_830 w_933 (Nat.le_of_ble_eq_true rfl) dX11_nextHeight_41 rfl (fun v4 => ?_)
          refine q_if_ne hC 50 dX11_nextHeight_44 rfl ?_ ?_
          · refine q_iload_n hC 1 dX11_nextHeight_50 rfl rfl ?_
            refine q_iconst hC dX11_nextHeight_51 rfl ?_
            refine q_ic_eq hC 93 dX11_nextHeight_52 rfl ?_ ?_
            · refine q_bipush hC (v := 12) dX11_nextHeight_93 rfl ?_
              refine q_iload_n hC 2 dX11_nextHeight_95 rfl rfl ?_
              refine q_imul hC dX11_nextHeight_96 ?_
              refine q_iload_n hC 3 dX11_nextHeight_97 rfl rfl ?_
              refine q_iadd hC dX11_nextHeight_98 ?_
              refine q_istore_n hC (fun y1_5 => [(1, .int y1_5), (0, .ref x0), (2, .int x2), (3, .int x3)]) dX11_nextHeight_99 rfl (Nat.le_of_ble_eq_true rfl) (fun _ => rfl) (fun y1_5 => ?_)
              refine q_iincA hC (loc' := [(3, .int (x3 + 1)), (1, .int y1_5), (0, .ref x0), (2, .int x2)]) 3 1 dX11_nextHeight_100 rfl rfl (Nat.le_of_ble_eq_true rfl) rfl ?_
              refine q_goto hC 14 dX11_nextHeight_103 rfl ?_
              exact c_sub [2, 1, 3, 0] rfl (hJ 2 [.ref x0, .int y1_5, .int x2, .int (x3 + 1)])
            · refine q_aload_n hC 0 dX11_nextHeight_55 rfl rfl ?_
              refine q_getR hC (by decide) (by decide) rfl w_822 dX11_nextHeight_56 (fun r6 => ?_)
              refine q_iload_n hC 3 dX11_nextHeight_59 rfl rfl ?_
              refine q_iald hC dX11_nextHeight_60 (fun v7 => ?_)
              refine q_aload_n hC 0 dX11_nextHeight_61 rfl rfl ?_
              refine q_iload_n hC 3 dX11_nextHeight_62 rfl rfl ?_
              refine q_iload_n hC 2 dX11_nextHeight_63 rfl rfl ?_
              refine q_cVI hC hnt (stk := [.int v7]) (as := [.int x3, .int x2]) sX11_distance (ci := 11) (by decide) rfl nX11_distance rfl w_867 w_869 w_870 w_830 w_868 (Nat.le_of_ble_eq_true rfl) dX11_nextHeight_64 rfl (fun v8 => ?_)
              refine q_iadd hC dX11_nextHeight_67 ?_
              refine q_aload_n hC 0 dX11_nextHeight_68 rfl rfl ?_
              refine q_getR hC (by decide) (by decide) rfl w_822 dX11_nextHeight_69 (fun r9 => ?_)
              refine q_iload_n hC 1 dX11_nextHeight_72 rfl rfl ?_
              refine q_bipush hC (v := 12) dX11_nextHeight_73 rfl ?_
              refine q_irem hC dX11_nextHeight_75 ?_
              refine q_iald hC dX11_nextHeight_76 (fun v10 => ?_)
              refine q_aload_n hC 0 dX11_nextHeight_77 rfl rfl ?_
              refine q_iload_n hC 1 dX11_nextHeight_78 rfl rfl ?_
              refine q_bipush hC (v := 12) dX11_nextHeight_79 rfl ?_
              refine q_irem hC dX11_nextHeight_81 ?_
              refine q_iload_n hC 1 dX11_nextHeight_82 rfl rfl ?_
              refine q_bipush hC (v := 12) dX11_nextHeight_83 rfl ?_
              refine q_idiv hC dX11_nextHeight_85 ?_
              refine q_cVI hC hnt (stk := [.int v10, .int (v7 + v8)]) (as := [.int (x1 - x1 / 12 * 12), .int (x1 / 12)]) sX11_distance (ci := 11) (by decide) rfl nX11_distance rfl w_867 w_869 w_870 w_830 w_868 (Nat.le_of_ble_eq_true rfl) dX11_nextHeight_86 rfl (fun v11 => ?_)
              refine q_iadd hC dX11_nextHeight_89 ?_
              refine q_ic_ge hC 100 dX11_nextHeight_90 rfl ?_ ?_
              · refine q_iincA hC (loc' := [(3, .int (x3 + 1)), (0, .ref x0), (1, .int x1), (2, .int x2)]) 3 1 dX11_nextHeight_100 rfl rfl (Nat.le_of_ble_eq_true rfl) rfl ?_
                refine q_goto hC 14 dX11_nextHeight_103 rfl ?_
                exact c_sub [1, 2, 3, 0] rfl (hJ 2 [.ref x0, .int x1, .int x2, .int (x3 + 1)])
              · refine q_bipush hC (v := 12) dX11_nextHeight_93 rfl ?_
                refine q_iload_n hC 2 dX11_nextHeight_95 rfl rfl ?_
                refine q_imul hC dX11_nextHeight_96 ?_
                refine q_iload_n hC 3 dX11_nextHeight_97 rfl rfl ?_
                refine q_iadd hC dX11_nextHeight_98 ?_
                refine q_istore_n hC (fun y1_12 => [(1, .int y1_12), (0, .ref x0), (2, .int x2), (3, .int x3)]) dX11_nextHeight_99 rfl (Nat.le_of_ble_eq_true rfl) (fun _ => rfl) (fun y1_12 => ?_)
                refine q_iincA hC (loc' := [(3, .int (x3 + 1)), (1, .int y1_12), (0, .ref x0), (2, .int x2)]) 3 1 dX11_nextHeight_100 rfl rfl (Nat.le_of_ble_eq_true rfl) rfl ?_
                refine q_goto hC 14 dX11_nextHeight_103 rfl ?_
                exact c_sub [2, 1, 3, 0] rfl (hJ 2 [.ref x0, .int y1_12, .int x2, .int (x3 + 1)])
          · refine q_goto hC 100 dX11_nextHeight_47 rfl ?_
            refine q_iincA hC (loc' := [(3, .int (x3 + 1)), (0, .ref x0), (1, .int x1), (2, .int x2)]) 3 1 dX11_nextHeight_100 rfl rfl (Nat.le_of_ble_eq_true rfl) rfl ?_
            refine q_goto hC 14 dX11_nextHeight_103 rfl ?_
            exact c_sub [1, 2, 3, 0] rfl (hJ 2 [.ref x0, .int x1, .int x2, .int (x3 + 1)])
  · exact c_no
theorem sX11_nextHeight : Snd yX11_nextHeight (.code yX11_nextHeight cX11_nextHeight 4 (some .int)) rmX11_nextHeight SX11_nextHeight := by
  refine Snd.of lX11_nextHeight (by decide +kernel) (fun _ => rfl) ?_
  intro Γ hC hnt hnm J hJ L a
  match L with
  | 0 => exact pX11_nextHeight_0 hC hnt J hJ a
  | 1 => exact pX11_nextHeight_1 hC hnt J hJ a
  | 2 => exact pX11_nextHeight_2 hC hnt J hJ a
  | L + 3 => exact c_no
/-! SpiritWallModel.levels()V -/
theorem dX11_levels_0 : decode cX11_levels 0 = .ok (.aload_n 0, 1) := by decide +kernel
theorem dX11_levels_1 : decode cX11_levels 1 = .ok (.invokevirtual 244, 3) := by decide +kernel
theorem dX11_levels_4 : decode cX11_levels 4 = .ok (.iconst 0, 1) := by decide +kernel
theorem dX11_levels_5 : decode cX11_levels 5 = .ok (.istore_n 1, 1) := by decide +kernel
theorem dX11_levels_6 : decode cX11_levels 6 = .ok (.iload_n 1, 1) := by decide +kernel
theorem dX11_levels_7 : decode cX11_levels 7 = .ok (.aload_n 0, 1) := by decide +kernel
theorem dX11_levels_8 : decode cX11_levels 8 = .ok (.invokevirtual 85, 3) := by decide +kernel
theorem dX11_levels_11 : decode cX11_levels 11 = .ok (.if_icmp .ge 28, 3) := by decide +kernel
theorem dX11_levels_14 : decode cX11_levels 14 = .ok (.aload_n 0, 1) := by decide +kernel
theorem dX11_levels_15 : decode cX11_levels 15 = .ok (.iload_n 1, 1) := by decide +kernel
theorem dX11_levels_16 : decode cX11_levels 16 = .ok (.iconst 3, 1) := by decide +kernel
theorem dX11_levels_17 : decode cX11_levels 17 = .ok (.aload_n 0, 1) := by decide +kernel
theorem dX11_levels_18 : decode cX11_levels 18 = .ok (.iload_n 1, 1) := by decide +kernel
theorem dX11_levels_19 : decode cX11_levels 19 = .ok (.iconst 2, 1) := by decide +kernel
theorem dX11_levels_20 : decode cX11_levels 20 = .ok (.invokevirtual 104, 3) := by decide +kernel
theorem dX11_levels_23 : decode cX11_levels 23 = .ok (.invokevirtual 247, 3) := by decide +kernel
theorem dX11_levels_26 : decode cX11_levels 26 = .ok (.aload_n 0, 1) := by decide +kernel
theorem dX11_levels_27 : decode cX11_levels 27 = .ok (.getfield 50, 3) := by decide +kernel
theorem dX11_levels_30 : decode cX11_levels 30 = .ok (.iload_n 1, 1) := by decide +kernel
theorem dX11_levels_31 : decode cX11_levels 31 = .ok (.iconst 0, 1) := by decide +kernel
theorem dX11_levels_32 : decode cX11_levels 32 = .ok (.iastore, 1) := by decide +kernel
theorem dX11_levels_33 : decode cX11_levels 33 = .ok (.iinc 1 1, 3) := by decide +kernel
theorem dX11_levels_36 : decode cX11_levels 36 = .ok (.goto (-30), 3) := by decide +kernel
theorem dX11_levels_39 : decode cX11_levels 39 = .ok (.aload_n 0, 1) := by decide +kernel
theorem dX11_levels_40 : decode cX11_levels 40 = .ok (.invokevirtual 251, 3) := by decide +kernel
theorem dX11_levels_43 : decode cX11_levels 43 = .ok (.istore_n 1, 1) := by decide +kernel
theorem dX11_levels_44 : decode cX11_levels 44 = .ok (.iload_n 1, 1) := by decide +kernel
theorem dX11_levels_45 : decode cX11_levels 45 = .ok (.iconst (-1), 1) := by decide +kernel
theorem dX11_levels_46 : decode cX11_levels 46 = .ok (.if_icmp .eq 66, 3) := by decide +kernel
theorem dX11_levels_49 : decode cX11_levels 49 = .ok (.iload_n 1, 1) := by decide +kernel
theorem dX11_levels_50 : decode cX11_levels 50 = .ok (.bipush 12, 2) := by decide +kernel
theorem dX11_levels_52 : decode cX11_levels 52 = .ok (.idiv, 1) := by decide +kernel
theorem dX11_levels_53 : decode cX11_levels 53 = .ok (.istore_n 2, 1) := by decide +kernel
theorem dX11_levels_54 : decode cX11_levels 54 = .ok (.iload_n 1, 1) := by decide +kernel
theorem dX11_levels_55 : decode cX11_levels 55 = .ok (.bipush 12, 2) := by decide +kernel
theorem dX11_levels_57 : decode cX11_levels 57 = .ok (.irem, 1) := by decide +kernel
theorem dX11_levels_58 : decode cX11_levels 58 = .ok (.istore_n 3, 1) := by decide +kernel
theorem dX11_levels_59 : decode cX11_levels 59 = .ok (.aload_n 0, 1) := by decide +kernel
theorem dX11_levels_60 : decode cX11_levels 60 = .ok (.iload_n 2, 1) := by decide +kernel
theorem dX11_levels_61 : decode cX11_levels 61 = .ok (.iconst 3, 1) := by decide +kernel
theorem dX11_levels_62 : decode cX11_levels 62 = .ok (.iconst 1, 1) := by decide +kernel
theorem dX11_levels_63 : decode cX11_levels 63 = .ok (.invokevirtual 247, 3) := by decide +kernel
theorem dX11_levels_66 : decode cX11_levels 66 = .ok (.aload_n 0, 1) := by decide +kernel
theorem dX11_levels_67 : decode cX11_levels 67 = .ok (.iload_n 2, 1) := by decide +kernel
theorem dX11_levels_68 : decode cX11_levels 68 = .ok (.iconst 4, 1) := by decide +kernel
theorem dX11_levels_69 : decode cX11_levels 69 = .ok (.aload_n 0, 1) := by decide +kernel
theorem dX11_levels_70 : decode cX11_levels 70 = .ok (.iload_n 3, 1) := by decide +kernel
theorem dX11_levels_71 : decode cX11_levels 71 = .ok (.iconst 4, 1) := by decide +kernel
theorem dX11_levels_72 : decode cX11_levels 72 = .ok (.invokevirtual 104, 3) := by decide +kernel
theorem dX11_levels_75 : decode cX11_levels 75 = .ok (.aload_n 0, 1) := by decide +kernel
theorem dX11_levels_76 : decode cX11_levels 76 = .ok (.iload_n 3, 1) := by decide +kernel
theorem dX11_levels_77 : decode cX11_levels 77 = .ok (.iload_n 2, 1) := by decide +kernel
theorem dX11_levels_78 : decode cX11_levels 78 = .ok (.invokevirtual 199, 3) := by decide +kernel
theorem dX11_levels_81 : decode cX11_levels 81 = .ok (.iadd, 1) := by decide +kernel
theorem dX11_levels_82 : decode cX11_levels 82 = .ok (.invokevirtual 247, 3) := by decide +kernel
theorem dX11_levels_85 : decode cX11_levels 85 = .ok (.aload_n 0, 1) := by decide +kernel
theorem dX11_levels_86 : decode cX11_levels 86 = .ok (.getfield 50, 3) := by decide +kernel
theorem dX11_levels_89 : decode cX11_levels 89 = .ok (.iload_n 2, 1) := by decide +kernel
theorem dX11_levels_90 : decode cX11_levels 90 = .ok (.aload_n 0, 1) := by decide +kernel
theorem dX11_levels_91 : decode cX11_levels 91 = .ok (.getfield 50, 3) := by decide +kernel
theorem dX11_levels_94 : decode cX11_levels 94 = .ok (.iload_n 3, 1) := by decide +kernel
theorem dX11_levels_95 : decode cX11_levels 95 = .ok (.iaload, 1) := by decide +kernel
theorem dX11_levels_96 : decode cX11_levels 96 = .ok (.aload_n 0, 1) := by decide +kernel
theorem dX11_levels_97 : decode cX11_levels 97 = .ok (.iload_n 3, 1) := by decide +kernel
theorem dX11_levels_98 : decode cX11_levels 98 = .ok (.iload_n 2, 1) := by decide +kernel
theorem dX11_levels_99 : decode cX11_levels 99 = .ok (.invokevirtual 113, 3) := by decide +kernel
theorem dX11_levels_102 : decode cX11_levels 102 = .ok (.iadd, 1) := by decide +kernel
theorem dX11_levels_103 : decode cX11_levels 103 = .ok (.iastore, 1) := by decide +kernel
theorem dX11_levels_104 : decode cX11_levels 104 = .ok (.aload_n 0, 1) := by decide +kernel
theorem dX11_levels_105 : decode cX11_levels 105 = .ok (.invokevirtual 251, 3) := by decide +kernel
theorem dX11_levels_108 : decode cX11_levels 108 = .ok (.istore_n 1, 1) := by decide +kernel
theorem dX11_levels_109 : decode cX11_levels 109 = .ok (.goto (-65), 3) := by decide +kernel
theorem dX11_levels_112 : decode cX11_levels 112 = .ok (.return_, 1) := by decide +kernel
def rmX11_levels : Room := rmk 15 0 0 357
theorem nX11_levels : nameOk yX11_levels 0 = true := by decide +kernel
def bX11_levels_0 (J : JT) : List Value → Sem
  | [.ref x0] =>
    ob 11 x0 (cV SX11_reckons [.ref x0] <|
    J 1 [.ref x0, .int 0])
  | _ => no
def bX11_levels_1 (J : JT) : List Value → Sem
  | [.ref x0, .int x1] =>
    ob 11 x0 (cI SX11_marks [.ref x0] fun v1 =>
    br (v1 ≤ x1)
    (ob 11 x0 (cI SX11_nextHeight [.ref x0] fun v2 =>
    J 2 [.ref x0, .int v2]))
    (ob 11 x0 (cI SX11_of [.ref x0, .int x1, .int 2] fun v3 =>
    ob 11 x0 (cV SX11_lays [.ref x0, .int x1, .int 3, .int v3] <|
    gR 11 18 x0 fun r4 =>
    sA r4 x1 0 <|
    J 1 [.ref x0, .int (x1 + 1)]))))
  | _ => no
def bX11_levels_2 (J : JT) : List Value → Sem
  | [.ref x0, .int x1] =>
    br (x1 = ((-1) : Int32))
    (rV)
    (nz 12 <|
    lI (x1 / 12) fun y2_1 =>
    nz 12 <|
    lI (x1 - x1 / 12 * 12) fun y3_2 =>
    ob 11 x0 (cV SX11_lays [.ref x0, .int y2_1, .int 3, .int 1] <|
    ob 11 x0 (cI SX11_of [.ref x0, .int y3_2, .int 4] fun v3 =>
    ob 11 x0 (cI SX11_riseFrom [.ref x0, .int y3_2, .int y2_1] fun v4 =>
    ob 11 x0 (cV SX11_lays [.ref x0, .int y2_1, .int 4, .int (v3 + v4)] <|
    gR 11 18 x0 fun r5 =>
    gR 11 18 x0 fun r6 =>
    aI r6 y3_2 fun v7 =>
    ob 11 x0 (cI SX11_distance [.ref x0, .int y3_2, .int y2_1] fun v8 =>
    sA r5 y2_1 (v7 + v8) <|
    ob 11 x0 (cI SX11_nextHeight [.ref x0] fun v9 =>
    J 2 [.ref x0, .int v9])))))))
  | _ => no
def bX11_levels (J : JT) : JT := fun L a => match L with
  | 0 => bX11_levels_0 J a
  | 1 => bX11_levels_1 J a
  | 2 => bX11_levels_2 J a
  | _ => no
def SX11_levels : ST := mk 4 bX11_levels
def lX11_levels (L : Nat) (a : List Value) : Nat × Nat × Nat × List (Nat × Value) × List Value := match L with
  | 0 => (0, 0, 0, lv_args 0 a, [])
  | 1 => (0, 0, 6, List.zip [0, 1] a, [])
  | 2 => (0, 0, 44, List.zip [0, 1] a, [])
  | _ => (0, 0, 0, [], [])
theorem pX11_levels_0 {Γ : CT} (hC : Ctx Γ "SpiritWallModel" cX11_levels 4 none rmX11_levels) (hnt : NT Γ) (J : JT) (hJ : ∀ L a, Cor Γ 4 (lX11_levels L a).1 (lX11_levels L a).2.1 (lX11_levels L a).2.2.1 (lX11_levels L a).2.2.2.1 (lX11_levels L a).2.2.2.2 (J L a)) (a : List Value) : Cor Γ 4 0 0 0 (lv_args 0 a) [] (bX11_levels_0 J a) := by
  unfold bX11_levels_0
  split
  · rename_i x0
    refine c_sub [0] rfl (loc' := [(0, .ref x0)]) ?_
    refine q_aload_n hC 0 dX11_levels_0 rfl rfl ?_
    refine q_cVV hC hnt (stk := []) (as := []) sX11_reckons (ci := 11) (by decide) rfl nX11_reckons rfl w_1016 w_1018 w_1019 w_830 w_1017 (Nat.le_of_ble_eq_true rfl) dX11_levels_1 rfl ?_
    refine q_iconst hC dX11_levels_4 rfl ?_
    refine q_istore_nA hC (loc' := [(1, .int 0), (0, .ref x0)]) dX11_levels_5 rfl (Nat.le_of_ble_eq_true rfl) rfl ?_
    exact c_sub [1, 0] rfl (hJ 1 [.ref x0, .int 0])
  · exact c_no
theorem pX11_levels_1 {Γ : CT} (hC : Ctx Γ "SpiritWallModel" cX11_levels 4 none rmX11_levels) (hnt : NT Γ) (J : JT) (hJ : ∀ L a, Cor Γ 4 (lX11_levels L a).1 (lX11_levels L a).2.1 (lX11_levels L a).2.2.1 (lX11_levels L a).2.2.2.1 (lX11_levels L a).2.2.2.2 (J L a)) (a : List Value) : Cor Γ 4 0 0 6 (List.zip [0, 1] a) [] (bX11_levels_1 J a) := by
  unfold bX11_levels_1
  split
  · rename_i x0 x1
    refine c_sub [0, 1] rfl (loc' := [(0, .ref x0), (1, .int x1)]) ?_
    refine q_iload_n hC 1 dX11_levels_6 rfl rfl ?_
    refine q_aload_n hC 0 dX11_levels_7 rfl rfl ?_
    refine q_cVI hC hnt (stk := [.int x1]) (as := []) sX11_marks (ci := 11) (by decide) rfl nX11_marks rfl w_843 w_845 w_846 w_830 w_844 (Nat.le_of_ble_eq_true rfl) dX11_levels_8 rfl (fun v1 => ?_)
    refine q_ic_ge hC 39 dX11_levels_11 rfl ?_ ?_
    · refine q_aload_n hC 0 dX11_levels_39 rfl rfl ?_
      refine q_cVI hC hnt (stk := []) (as := []) sX11_nextHeight (ci := 11) (by decide) rfl nX11_nextHeight rfl w_1020 w_1022 w_1023 w_830 w_1021 (Nat.le_of_ble_eq_true rfl) dX11_levels_40 rfl (fun v2 => ?_)
      refine q_istore_nA hC (loc' := [(1, .int v2), (0, .ref x0)]) dX11_levels_43 rfl (Nat.le_of_ble_eq_true rfl) rfl ?_
      exact c_sub [1, 0] rfl (hJ 2 [.ref x0, .int v2])
    · refine q_aload_n hC 0 dX11_levels_14 rfl rfl ?_
      refine q_iload_n hC 1 dX11_levels_15 rfl rfl ?_
      refine q_iconst hC dX11_levels_16 rfl ?_
      refine q_aload_n hC 0 dX11_levels_17 rfl rfl ?_
      refine q_iload_n hC 1 dX11_levels_18 rfl rfl ?_
      refine q_iconst hC dX11_levels_19 rfl ?_
      refine q_cVI hC hnt (stk := [.int 3, .int x1, .ref x0]) (as := [.int x1, .int 2]) sX11_of (ci := 11) (by decide) rfl nX11_of rfl w_862 w_864 w_865 w_830 w_863 (Nat.le_of_ble_eq_true rfl) dX11_levels_20 rfl (fun v3 => ?_)
      refine q_cVV hC hnt (stk := []) (as := [.int x1, .int 3, .int v3]) sX11_lays (ci := 11) (by decide) rfl nX11_lays rfl w_1024 w_1026 w_1027 w_830 w_1025 (Nat.le_of_ble_eq_true rfl) dX11_levels_23 rfl ?_
      refine q_aload_n hC 0 dX11_levels_26 rfl rfl ?_
      refine q_getR hC (by decide) (by decide) rfl w_822 dX11_levels_27 (fun r4 => ?_)
      refine q_iload_n hC 1 dX11_levels_30 rfl rfl ?_
      refine q_iconst hC dX11_levels_31 rfl ?_
      refine q_iast hC dX11_levels_32 ?_
      refine q_iincA hC (loc' := [(1, .int (x1 + 1)), (0, .ref x0)]) 1 1 dX11_levels_33 rfl rfl (Nat.le_of_ble_eq_true rfl) rfl ?_
      refine q_goto hC 6 dX11_levels_36 rfl ?_
      exact c_sub [1, 0] rfl (hJ 1 [.ref x0, .int (x1 + 1)])
  · exact c_no
theorem pX11_levels_2 {Γ : CT} (hC : Ctx Γ "SpiritWallModel" cX11_levels 4 none rmX11_levels) (hnt : NT Γ) (J : JT) (hJ : ∀ L a, Cor Γ 4 (lX11_levels L a).1 (lX11_levels L a).2.1 (lX11_levels L a).2.2.1 (lX11_levels L a).2.2.2.1 (lX11_levels L a).2.2.2.2 (J L a)) (a : List Value) : Cor Γ 4 0 0 44 (List.zip [0, 1] a) [] (bX11_levels_2 J a) := by
  unfold bX11_levels_2
  split
  · rename_i x0 x1
    refine c_sub [0, 1] rfl (loc' := [(0, .ref x0), (1, .int x1)]) ?_
    refine q_iload_n hC 1 dX11_levels_44 rfl rfl ?_
    refine q_iconst hC dX11_levels_45 rfl ?_
    refine q_ic_eq hC 112 dX11_levels_46 rfl ?_ ?_
    · exact q_vret hC dX11_levels_112 (Nat.le_of_ble_eq_true rfl) (Nat.le_of_ble_eq_true rfl)
    · refine q_iload_n hC 1 dX11_levels_49 rfl rfl ?_
      refine q_bipush hC (v := 12) dX11_levels_50 rfl ?_
      refine q_idiv hC dX11_levels_52 ?_
      refine q_istore_n hC (fun y2_1 => [(2, .int y2_1), (0, .ref x0), (1, .int x1)]) dX11_levels_53 rfl (Nat.le_of_ble_eq_true rfl) (fun _ => rfl) (fun y2_1 => ?_)
      refine q_iload_n hC 2 dX11_levels_54 rfl rfl ?_
      refine q_bipush hC (v := 12) dX11_levels_55 rfl ?_
      refine q_irem hC dX11_levels_57 ?_
      refine q_istore_n hC (fun y3_2 => [(3, .int y3_2), (2, .int y2_1), (0, .ref x0), (1, .int x1)]) dX11_levels_58 rfl (Nat.le_of_ble_eq_true rfl) (fun _ => rfl) (fun y3_2 => ?_)
      refine q_aload_n hC 2 dX11_levels_59 rfl rfl ?_
      refine q_iload_n hC 1 dX11_levels_60 rfl rfl ?_
      refine q_iconst hC dX11_levels_61 rfl ?_
      refine q_iconst hC dX11_levels_62 rfl ?_
      refine q_cVV hC hnt (stk := []) (as := [.int y2_1, .int 3, .int 1]) sX11_lays (ci := 11) (by decide) rfl nX11_lays rfl w_1024 w_1026 w_1027 w_830 w_1025 (Nat.le_of_ble_eq_true rfl) dX11_levels_63 rfl ?_
      refine q_aload_n hC 2 dX11_levels_66 rfl rfl ?_
      refine q_iload_n hC 1 dX11_levels_67 rfl rfl ?_
      refine q_iconst hC dX11_levels_68 rfl ?_
      refine q_aload_n hC 2 dX11_levels_69 rfl rfl ?_
      refine q_iload_n hC 0 dX11_levels_70 rfl rfl ?_
      refine q_iconst hC dX11_levels_71 rfl ?_
      refine q_cVI hC hnt (stk := [.int 4, .int y2_1, .ref x0]) (as := [.int y3_2, .int 4]) sX11_of (ci := 11) (by decide) rfl nX11_of rfl w_862 w_864 w_865 w_830 w_863 (Nat.le_of_ble_eq_true rfl) dX11_levels_72 rfl (fun v3 => ?_)
      refine q_aload_n hC 2 dX11_levels_75 rfl rfl ?_
      refine q_iload_n hC 0 dX11_levels_76 rfl rfl ?_
      refine q_iload_n hC 1 dX11_levels_77 rfl rfl ?_
      refine q_cVI hC hnt (stk := [.int v3, .int 4, .int y2_1, .ref x0]) (as := [.int y3_2, .int y2_1]) sX11_riseFrom (ci := 11) (by decide) rfl nX11_riseFrom rfl w_959 w_961 w_962 w_830 w_960 (Nat.le_of_ble_eq_true rfl) dX11_levels_78 rfl (fun v4 => ?_)
      refine q_iadd hC dX11_levels_81 ?_
      refine q_cVV hC hnt (stk := []) (as := [.int y2_1, .int 4, .int (v3 + v4)]) sX11_lays (ci := 11) (by decide) rfl nX11_lays rfl w_1024 w_1026 w_1027 w_830 w_1025 (Nat.le_of_ble_eq_true rfl) dX11_levels_82 rfl ?_
      refine q_aload_n hC 2 dX11_levels_85 rfl rfl ?_
      refine q_getR hC (by decide) (by decide) rfl w_822 dX11_levels_86 (fun r5 => ?_)
      refine q_iload_n hC 1 dX11_levels_89 rfl rfl ?_
      refine q_aload_n hC 2 dX11_levels_90 rfl rfl ?_
      refine q_getR hC (by decide) (by decide) rfl w_822 dX11_levels_91 (fun r6 => ?_)
      refine q_iload_n hC 0 dX11_levels_94 rfl rfl ?_
      refine q_iald hC dX11_levels_95 (fun v7 => ?_)
      refine q_aload_n hC 2 dX11_levels_96 rfl rfl ?_
      refine q_iload_n hC 0 dX11_levels_97 rfl rfl ?_
      refine q_iload_n hC 1 dX11_levels_98 rfl rfl ?_
      refine q_cVI hC hnt (stk := [.int v7, .int y2_1, .ref r5]) (as := [.int y3_2, .int y2_1]) sX11_distance (ci := 11) (by decide) rfl nX11_distance rfl w_867 w_869 w_870 w_830 w_868 (Nat.le_of_ble_eq_true rfl) dX11_levels_99 rfl (fun v8 => ?_)
      refine q_iadd hC dX11_levels_102 ?_
      refine q_iast hC dX11_levels_103 ?_
      refine q_aload_n hC 2 dX11_levels_104 rfl rfl ?_
      refine q_cVI hC hnt (stk := []) (as := []) sX11_nextHeight (ci := 11) (by decide) rfl nX11_nextHeight rfl w_1020 w_1022 w_1023 w_830 w_1021 (Nat.le_of_ble_eq_true rfl) dX11_levels_105 rfl (fun v9 => ?_)
      refine q_istore_nA hC (loc' := [(1, .int v9), (3, .int y3_2), (2, .int y2_1), (0, .ref x0)]) dX11_levels_108 rfl (Nat.le_of_ble_eq_true rfl) rfl ?_
      refine q_goto hC 44 dX11_levels_109 rfl ?_
      exact c_sub [3, 0] rfl (hJ 2 [.ref x0, .int v9])
  · exact c_no
theorem sX11_levels : Snd yX11_levels (.code yX11_levels cX11_levels 4 none) rmX11_levels SX11_levels := by
  refine Snd.of lX11_levels (by decide +kernel) (fun _ => rfl) ?_
  intro Γ hC hnt hnm J hJ L a
  match L with
  | 0 => exact pX11_levels_0 hC hnt J hJ a
  | 1 => exact pX11_levels_1 hC hnt J hJ a
  | 2 => exact pX11_levels_2 hC hnt J hJ a
  | L + 3 => exact c_no
