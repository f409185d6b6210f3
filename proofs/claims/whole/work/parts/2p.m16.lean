/-! SpiritWallModel.tensionOf(I)I -/
theorem dX11_tensionOf_0 : decode cX11_tensionOf 0 = .ok (.iconst 0, 1) := by decide +kernel
theorem dX11_tensionOf_1 : decode cX11_tensionOf 1 = .ok (.istore_n 2, 1) := by decide +kernel
theorem dX11_tensionOf_2 : decode cX11_tensionOf 2 = .ok (.iconst 0, 1) := by decide +kernel
theorem dX11_tensionOf_3 : decode cX11_tensionOf 3 = .ok (.istore_n 3, 1) := by decide +kernel
theorem dX11_tensionOf_4 : decode cX11_tensionOf 4 = .ok (.iload_n 3, 1) := by decide +kernel
theorem dX11_tensionOf_5 : decode cX11_tensionOf 5 = .ok (.aload_n 0, 1) := by decide +kernel
theorem dX11_tensionOf_6 : decode cX11_tensionOf 6 = .ok (.invokevirtual 85, 3) := by decide +kernel
theorem dX11_tensionOf_9 : decode cX11_tensionOf 9 = .ok (.if_icmp .ge 54, 3) := by decide +kernel
theorem dX11_tensionOf_12 : decode cX11_tensionOf 12 = .ok (.aload_n 0, 1) := by decide +kernel
theorem dX11_tensionOf_13 : decode cX11_tensionOf 13 = .ok (.iload_n 3, 1) := by decide +kernel
theorem dX11_tensionOf_14 : decode cX11_tensionOf 14 = .ok (.iload_n 1, 1) := by decide +kernel
theorem dX11_tensionOf_15 : decode cX11_tensionOf 15 = .ok (.invokevirtual 173, 3) := by decide +kernel
theorem dX11_tensionOf_18 : decode cX11_tensionOf 18 = .ok (.ifCond .eq 39, 3) := by decide +kernel
theorem dX11_tensionOf_21 : decode cX11_tensionOf 21 = .ok (.aload_n 0, 1) := by decide +kernel
theorem dX11_tensionOf_22 : decode cX11_tensionOf 22 = .ok (.iload_n 3, 1) := by decide +kernel
theorem dX11_tensionOf_23 : decode cX11_tensionOf 23 = .ok (.invokevirtual 241, 3) := by decide +kernel
theorem dX11_tensionOf_26 : decode cX11_tensionOf 26 = .ok (.ifCond .eq 31, 3) := by decide +kernel
theorem dX11_tensionOf_29 : decode cX11_tensionOf 29 = .ok (.iload_n 2, 1) := by decide +kernel
theorem dX11_tensionOf_30 : decode cX11_tensionOf 30 = .ok (.aload_n 0, 1) := by decide +kernel
theorem dX11_tensionOf_31 : decode cX11_tensionOf 31 = .ok (.iload_n 1, 1) := by decide +kernel
theorem dX11_tensionOf_32 : decode cX11_tensionOf 32 = .ok (.iconst 4, 1) := by decide +kernel
theorem dX11_tensionOf_33 : decode cX11_tensionOf 33 = .ok (.invokevirtual 104, 3) := by decide +kernel
theorem dX11_tensionOf_36 : decode cX11_tensionOf 36 = .ok (.aload_n 0, 1) := by decide +kernel
theorem dX11_tensionOf_37 : decode cX11_tensionOf 37 = .ok (.iload_n 3, 1) := by decide +kernel
theorem dX11_tensionOf_38 : decode cX11_tensionOf 38 = .ok (.iconst 4, 1) := by decide +kernel
theorem dX11_tensionOf_39 : decode cX11_tensionOf 39 = .ok (.invokevirtual 104, 3) := by decide +kernel
theorem dX11_tensionOf_42 : decode cX11_tensionOf 42 = .ok (.isub, 1) := by decide +kernel
theorem dX11_tensionOf_43 : decode cX11_tensionOf 43 = .ok (.aload_n 0, 1) := by decide +kernel
theorem dX11_tensionOf_44 : decode cX11_tensionOf 44 = .ok (.iload_n 3, 1) := by decide +kernel
theorem dX11_tensionOf_45 : decode cX11_tensionOf 45 = .ok (.iload_n 1, 1) := by decide +kernel
theorem dX11_tensionOf_46 : decode cX11_tensionOf 46 = .ok (.invokevirtual 199, 3) := by decide +kernel
theorem dX11_tensionOf_49 : decode cX11_tensionOf 49 = .ok (.isub, 1) := by decide +kernel
theorem dX11_tensionOf_50 : decode cX11_tensionOf 50 = .ok (.invokestatic 107, 3) := by decide +kernel
theorem dX11_tensionOf_53 : decode cX11_tensionOf 53 = .ok (.invokestatic 176, 3) := by decide +kernel
theorem dX11_tensionOf_56 : decode cX11_tensionOf 56 = .ok (.istore_n 2, 1) := by decide +kernel
theorem dX11_tensionOf_57 : decode cX11_tensionOf 57 = .ok (.iinc 3 1, 3) := by decide +kernel
theorem dX11_tensionOf_60 : decode cX11_tensionOf 60 = .ok (.goto (-56), 3) := by decide +kernel
theorem dX11_tensionOf_63 : decode cX11_tensionOf 63 = .ok (.iload_n 2, 1) := by decide +kernel
theorem dX11_tensionOf_64 : decode cX11_tensionOf 64 = .ok (.ireturn, 1) := by decide +kernel
def rmX11_tensionOf : Room := rmk 8 0 0 193
theorem nX11_tensionOf : nameOk yX11_tensionOf 1 = true := by decide +kernel
def bX11_tensionOf_0 (J : JT) : List Value → Sem
  | [.ref x0, .int x1] =>
    J 1 [.ref x0, .int x1, .int 0, .int 0]
  | _ => no
def bX11_tensionOf_1 (J : JT) : List Value → Sem
  | [.ref x0, .int x1, .int x2, .int x3] =>
    ob 11 x0 (cI SX11_marks [.ref x0] fun v1 =>
    br (v1 ≤ x3)
    (rI x2)
    (ob 11 x0 (cI SX11_isEdge [.ref x0, .int x3, .int x1] fun v2 =>
    br (v2 = 0)
    (J 1 [.ref x0, .int x1, .int x2, .int (x3 + 1)])
    (ob 11 x0 (cI SX11_hasHeight [.ref x0, .int x3] fun v3 =>
    br (v3 = 0)
    (J 1 [.ref x0, .int x1, .int x2, .int (x3 + 1)])
    (ob 11 x0 (cI SX11_of [.ref x0, .int x1, .int 4] fun v4 =>
    ob 11 x0 (cI SX11_of [.ref x0, .int x3, .int 4] fun v5 =>
    ob 11 x0 (cI SX11_riseFrom [.ref x0, .int x3, .int x1] fun v6 =>
    cI SJ9_abs_0f7a4 [.int ((v4 - v5) - v6)] fun v7 =>
    cI SJ9_max_7cf53 [.int x2, .int v7] fun v8 =>
    J 1 [.ref x0, .int x1, .int v8, .int (x3 + 1)])))))))))
  | _ => no
def bX11_tensionOf (J : JT) : JT := fun L a => match L with
  | 0 => bX11_tensionOf_0 J a
  | 1 => bX11_tensionOf_1 J a
  | _ => no
def SX11_tensionOf : ST := mk 4 bX11_tensionOf
def lX11_tensionOf (L : Nat) (a : List Value) : Nat × Nat × Nat × List (Nat × Value) × List Value := match L with
  | 0 => (0, 0, 0, lv_args 0 a, [])
  | 1 => (0, 0, 4, List.zip [0, 1, 2, 3] a, [])
  | _ => (0, 0, 0, [], [])
theorem pX11_tensionOf_0 {Γ : CT} (hC : Ctx Γ "SpiritWallModel" cX11_tensionOf 4 (some .int) rmX11_tensionOf) (hnt : NT Γ) (J : JT) (hJ : ∀ L a, Cor Γ 4 (lX11_tensionOf L a).1 (lX11_tensionOf L a).2.1 (lX11_tensionOf L a).2.2.1 (lX11_tensionOf L a).2.2.2.1 (lX11_tensionOf L a).2.2.2.2 (J L a)) (a : List Value) : Cor Γ 4 0 0 0 (lv_args 0 a) [] (bX11_tensionOf_0 J a) := by
  unfold bX11_tensionOf_0
  split
  · rename_i x0 x1
    refine c_sub [0, 1] rfl (loc' := [(0, .ref x0), (1, .int x1)]) ?_
    refine q_iconst hC dX11_tensionOf_0 rfl ?_
    refine q_istore_nA hC (loc' := [(2, .int 0), (0, .ref x0), (1, .int x1)]) dX11_tensionOf_1 rfl (Nat.le_of_ble_eq_true rfl) rfl ?_
    refine q_iconst hC dX11_tensionOf_2 rfl ?_
    refine q_istore_nA hC (loc' := [(3, .int 0), (2, .int 0), (0, .ref x0), (1, .int x1)]) dX11_tensionOf_3 rfl (Nat.le_of_ble_eq_true rfl) rfl ?_
    exact c_sub [2, 3, 1, 0] rfl (hJ 1 [.ref x0, .int x1, .int 0, .int 0])
  · exact c_no
theorem pX11_tensionOf_1 {Γ : CT} (hC : Ctx Γ "SpiritWallModel" cX11_tensionOf 4 (some .int) rmX11_tensionOf) (hnt : NT Γ) (J : JT) (hJ : ∀ L a, Cor Γ 4 (lX11_tensionOf L a).1 (lX11_tensionOf L a).2.1 (lX11_tensionOf L a).2.2.1 (lX11_tensionOf L a).2.2.2.1 (lX11_tensionOf L a).2.2.2.2 (J L a)) (a : List Value) : Cor Γ 4 0 0 4 (List.zip [0, 1, 2, 3] a) [] (bX11_tensionOf_1 J a) := by
  unfold bX11_tensionOf_1
  split
  · rename_i x0 x1 x2 x3
    refine c_sub [0, 1, 2, 3] rfl (loc' := [(0, .ref x0), (1, .int x1), (2, .int x2), (3, .int x3)]) ?_
    refine q_iload_n hC 3 dX11_tensionOf_4 rfl rfl ?_
    refine q_aload_n hC 0 dX11_tensionOf_5 rfl rfl ?_
    refine q_cVI hC hnt (stk := [.int x3]) (as := []) sX11_marks (ci := 11) (by decide) rfl nX11_marks rfl w_843 w_845 w_846 w_830 w_844 (Nat.le_of_ble_eq_true rfl) dX11_tensionOf_6 rfl (fun v1 => ?_)
    refine q_ic_ge hC 63 dX11_tensionOf_9 rfl ?_ ?_
    · refine q_iload_n hC 2 dX11_tensionOf_63 rfl rfl ?_
      exact q_iret hC dX11_tensionOf_64 (Nat.le_of_ble_eq_true rfl) (Nat.le_of_ble_eq_true rfl)
    · refine q_aload_n hC 0 dX11_tensionOf_12 rfl rfl ?_
      refine q_iload_n hC 3 dX11_tensionOf_13 rfl rfl ?_
      refine q_iload_n hC 1 dX11_tensionOf_14 rfl rfl ?_
      refine q_cVI hC hnt (stk := []) (as := [.int x3, .int x1]) sX11_isEdge (ci := 11) (by decide) rfl nX11_isEdge rfl w_932 w_934 w_935 w_830 w_933 (Nat.le_of_ble_eq_true rfl) dX11_tensionOf_15 rfl (fun v2 => ?_)
      refine q_if_eq hC 57 dX11_tensionOf_18 rfl ?_ ?_
      · refine q_iincA hC (loc' := [(3, .int (x3 + 1)), (0, .ref x0), (1, .int x1), (2, .int x2)]) 3 1 dX11_tensionOf_57 rfl rfl (Nat.le_of_ble_eq_true rfl) rfl ?_
        refine q_goto hC 4 dX11_tensionOf_60 rfl ?_
        exact c_sub [1, 2, 3, 0] rfl (hJ 1 [.ref x0, .int x1, .int x2, .int (x3 + 1)])
      · refine q_aload_n hC 0 dX11_tensionOf_21 rfl rfl ?_
        refine q_iload_n hC 3 dX11_tensionOf_22 rfl rfl ?_
        refine q_cVI hC hnt (stk := []) (as := [.int x3]) sX11_hasHeight (ci := 11) (by decide) rfl nX11_hasHeight rfl w_1012 w_1014 w_1015 w_830 w_1013 (Nat.le_of_ble_eq_true rfl) dX11_tensionOf_23 rfl (fun v3 => ?_)
        refine q_if_eq hC 57 dX11_tensionOf_26 rfl ?_ ?_
        · refine q_iincA hC (loc' := [(3, .int (x3 + 1)), (0, .ref x0), (1, .int x1), (2, .int x2)]) 3 1 dX11_tensionOf_57 rfl rfl (Nat.le_of_ble_eq_true rfl) rfl ?_
          refine q_goto hC 4 dX11_tensionOf_60 rfl ?_
          exact c_sub [1, 2, 3, 0] rfl (hJ 1 [.ref x0, .int x1, .int x2, .int (x3 + 1)])
        · refine q_iload_n hC 2 dX11_tensionOf_29 rfl rfl ?_
          refine q_aload_n hC 0 dX11_tensionOf_30 rfl rfl ?_
          refine q_iload_n hC 1 dX11_tensionOf_31 rfl rfl ?_
          refine q_iconst hC dX11_tensionOf_32 rfl ?_
          refine q_cVI hC hnt (stk := [.int x2]) (as := [.int x1, .int 4]) sX11_of (ci := 11) (by decide) rfl nX11_of rfl w_862 w_864 w_865 w_830 w_863 (Nat.le_of_ble_eq_true rfl) dX11_tensionOf_33 rfl (fun v4 => ?_)
          refine q_aload_n hC 0 dX11_tensionOf_36 rfl rfl ?_
          refine q_iload_n hC 3 dX11_tensionOf_37 rfl rfl ?_
          refine q_iconst hC dX11_tensionOf_38 rfl ?_
          refine q_cVI hC hnt (stk := [.int v4, .int x2]) (as := [.int x3, .int 4]) sX11_of (ci := 11) (by decide) rfl nX11_of rfl w_862 w_864 w_865 w_830 w_863 (Nat.le_of_ble_eq_true rfl) dX11_tensionOf_39 rfl (fun v5 => ?_)
          refine q_isub hC dX11_tensionOf_42 ?_
          refine q_aload_n hC 0 dX11_tensionOf_43 rfl rfl ?_
          refine q_iload_n hC 3 dX11_tensionOf_44 rfl rfl ?_
          refine q_iload_n hC 1 dX11_tensionOf_45 rfl rfl ?_
          refine q_cVI hC hnt (stk := [.int (v4 - v5), .int x2]) (as := [.int x3, .int x1]) sX11_riseFrom (ci := 11) (by decide) rfl nX11_riseFrom rfl w_959 w_961 w_962 w_830 w_960 (Nat.le_of_ble_eq_true rfl) dX11_tensionOf_46 rfl (fun v6 => ?_)
          refine q_isub hC dX11_tensionOf_49 ?_
          refine q_cSI hC hnt (stk := [.int x2]) (as := [.int ((v4 - v5) - v6)]) sJ9_abs_0f7a4 nJ9_abs_0f7a4 rfl w_866 w_687 w_351 w_686 (Nat.le_of_ble_eq_true rfl) dX11_tensionOf_50 rfl (fun v7 => ?_)
          refine q_cSI hC hnt (stk := []) (as := [.int x2, .int v7]) sJ9_max_7cf53 nJ9_max_7cf53 rfl w_936 w_938 w_351 w_937 (Nat.le_of_ble_eq_true rfl) dX11_tensionOf_53 rfl (fun v8 => ?_)
          refine q_istore_nA hC (loc' := [(2, .int v8), (0, .ref x0), (1, .int x1), (3, .int x3)]) dX11_tensionOf_56 rfl (Nat.le_of_ble_eq_true rfl) rfl ?_
          refine q_iincA hC (loc' := [(3, .int (x3 + 1)), (2, .int v8), (0, .ref x0), (1, .int x1)]) 3 1 dX11_tensionOf_57 rfl rfl (Nat.le_of_ble_eq_true rfl) rfl ?_
          refine q_goto hC 4 dX11_tensionOf_60 rfl ?_
          exact c_sub [2, 3, 1, 0] rfl (hJ 1 [.ref x0, .int x1, .int v8, .int (x3 + 1)])
  · exact c_no
theorem sX11_tensionOf : Snd yX11_tensionOf (.code yX11_tensionOf cX11_tensionOf 4 (some .int)) rmX11_tensionOf SX11_tensionOf := by
  refine Snd.of lX11_tensionOf (by decide +kernel) (fun _ => rfl) ?_
  intro Γ hC hnt hnm J hJ L a
  match L with
  | 0 => exact pX11_tensionOf_0 hC hnt J hJ a
  | 1 => exact pX11_tensionOf_1 hC hnt J hJ a
  | L + 2 => exact c_no
/-! SpiritWallModel.tension(I)I -/
theorem dX11_tension_0 : decode cX11_tension 0 = .ok (.aload_n 0, 1) := by decide +kernel
theorem dX11_tension_1 : decode cX11_tension 1 = .ok (.aload_n 0, 1) := by decide +kernel
theorem dX11_tension_2 : decode cX11_tension 2 = .ok (.iload_n 1, 1) := by decide +kernel
theorem dX11_tension_3 : decode cX11_tension 3 = .ok (.invokevirtual 93, 3) := by decide +kernel
theorem dX11_tension_6 : decode cX11_tension 6 = .ok (.invokevirtual 77, 3) := by decide +kernel
theorem dX11_tension_9 : decode cX11_tension 9 = .ok (.ifCond .ne 5, 3) := by decide +kernel
theorem dX11_tension_12 : decode cX11_tension 12 = .ok (.iconst 0, 1) := by decide +kernel
theorem dX11_tension_13 : decode cX11_tension 13 = .ok (.ireturn, 1) := by decide +kernel
theorem dX11_tension_14 : decode cX11_tension 14 = .ok (.aload_n 0, 1) := by decide +kernel
theorem dX11_tension_15 : decode cX11_tension 15 = .ok (.invokevirtual 244, 3) := by decide +kernel
theorem dX11_tension_18 : decode cX11_tension 18 = .ok (.aload_n 0, 1) := by decide +kernel
theorem dX11_tension_19 : decode cX11_tension 19 = .ok (.iload_n 1, 1) := by decide +kernel
theorem dX11_tension_20 : decode cX11_tension 20 = .ok (.invokevirtual 241, 3) := by decide +kernel
theorem dX11_tension_23 : decode cX11_tension 23 = .ok (.ifCond .eq 11, 3) := by decide +kernel
theorem dX11_tension_26 : decode cX11_tension 26 = .ok (.aload_n 0, 1) := by decide +kernel
theorem dX11_tension_27 : decode cX11_tension 27 = .ok (.iload_n 1, 1) := by decide +kernel
theorem dX11_tension_28 : decode cX11_tension 28 = .ok (.invokevirtual 325, 3) := by decide +kernel
theorem dX11_tension_31 : decode cX11_tension 31 = .ok (.goto 5, 3) := by decide +kernel
theorem dX11_tension_34 : decode cX11_tension 34 = .ok (.ldc 140, 2) := by decide +kernel
theorem dX11_tension_36 : decode cX11_tension 36 = .ok (.ireturn, 1) := by decide +kernel
def rmX11_tension : Room := rmk 15 0 0 357
theorem nX11_tension : nameOk yX11_tension 1 = true := by decide +kernel
def bX11_tension_0 (J : JT) : List Value → Sem
  | [.ref x0, .int x1] =>
    ob 11 x0 (cI SX11_isMark [.ref x0, .int x1] fun v1 =>
    ob 11 x0 (cI SX11_is [.ref x0, .int v1] fun v2 =>
    br (v2 = 0)
    (rI 0)
    (ob 11 x0 (cV SX11_reckons [.ref x0] <|
    ob 11 x0 (cI SX11_hasHeight [.ref x0, .int x1] fun v3 =>
    br (v3 = 0)
    (rI (-10000000))
    (ob 11 x0 (cI SX11_tensionOf [.ref x0, .int x1] fun v4 =>
    rI v4)))))))
  | _ => no
def bX11_tension (J : JT) : JT := fun L a => match L with
  | 0 => bX11_tension_0 J a
  | _ => no
def SX11_tension : ST := mk 2 bX11_tension
def lX11_tension (L : Nat) (a : List Value) : Nat × Nat × Nat × List (Nat × Value) × List Value := match L with
  | 0 => (0, 0, 0, lv_args 0 a, [])
  | _ => (0, 0, 0, [], [])
theorem pX11_tension_0 {Γ : CT} (hC : Ctx Γ "SpiritWallModel" cX11_tension 2 (some .int) rmX11_tension) (hnt : NT Γ) (J : JT) (hJ : ∀ L a, Cor Γ 2 (lX11_tension L a).1 (lX11_tension L a).2.1 (lX11_tension L a).2.2.1 (lX11_tension L a).2.2.2.1 (lX11_tension L a).2.2.2.2 (J L a)) (a : List Value) : Cor Γ 2 0 0 0 (lv_args 0 a) [] (bX11_tension_0 J a) := by
  unfold bX11_tension_0
  split
  · rename_i x0 x1
    refine c_sub [0, 1] rfl (loc' := [(0, .ref x0), (1, .int x1)]) ?_
    refine q_aload_n hC 0 dX11_tension_0 rfl rfl ?_
    refine q_aload_n hC 0 dX11_tension_1 rfl rfl ?_
    refine q_iload_n hC 1 dX11_tension_2 rfl rfl ?_
    refine q_cVI hC hnt (stk := [.ref x0]) (as := [.int x1]) sX11_isMark (ci := 11) (by decide) rfl nX11_isMark rfl w_850 w_852 w_853 w_830 w_851 (Nat.le_of_ble_eq_true rfl) dX11_tension_3 rfl (fun v1 => ?_)
    refine q_cVI hC hnt (stk := []) (as := [.int v1]) sX11_is (ci := 11) (by decide) rfl nX11_is rfl w_838 w_840 w_841 w_830 w_839 (Nat.le_of_ble_eq_true rfl) dX11_tension_6 rfl (fun v2 => ?_)
    refine q_if_ne hC 14 dX11_tension_9 rfl ?_ ?_
    · refine q_aload_n hC 0 dX11_tension_14 rfl rfl ?_
      refine q_cVV hC hnt (stk := []) (as := []) sX11_reckons (ci := 11) (by decide) rfl nX11_reckons rfl w_1016 w_1018 w_1019 w_830 w_1017 (Nat.le_of_ble_eq_true rfl) dX11_tension_15 rfl ?_
      refine q_aload_n hC 0 dX11_tension_18 rfl rfl ?_
      refine q_iload_n hC 1 dX11_tension_19 rfl rfl ?_
      refine q_cVI hC hnt (stk := []) (as := [.int x1]) sX11_hasHeight (ci := 11) (by decide) rfl nX11_hasHeight rfl w_1012 w_1014 w_1015 w_830 w_1013 (Nat.le_of_ble_eq_true rfl) dX11_tension_20 rfl (fun v3 => ?_)
      refine q_if_eq hC 34 dX11_tension_23 rfl ?_ ?_
      · refine q_ldc hC w_889 dX11_tension_34 ?_
        exact q_iret hC dX11_tension_36 (Nat.le_of_ble_eq_true rfl) (Nat.le_of_ble_eq_true rfl)
      · refine q_aload_n hC 0 dX11_tension_26 rfl rfl ?_
        refine q_iload_n hC 1 dX11_tension_27 rfl rfl ?_
        refine q_cVI hC hnt (stk := []) (as := [.int x1]) sX11_tensionOf (ci := 11) (by decide) rfl nX11_tensionOf rfl w_1112 w_1114 w_1115 w_830 w_1113 (Nat.le_of_ble_eq_true rfl) dX11_tension_28 rfl (fun v4 => ?_)
        refine q_goto hC 36 dX11_tension_31 rfl ?_
        exact q_iret hC dX11_tension_36 (Nat.le_of_ble_eq_true rfl) (Nat.le_of_ble_eq_true rfl)
    · refine q_iconst hC dX11_tension_12 rfl ?_
      exact q_iret hC dX11_tension_13 (Nat.le_of_ble_eq_true rfl) (Nat.le_of_ble_eq_true rfl)
  · exact c_no
theorem sX11_tension : Snd yX11_tension (.code yX11_tension cX11_tension 2 (some .int)) rmX11_tension SX11_tension := by
  refine Snd.of lX11_tension (by decide +kernel) (fun _ => rfl) ?_
  intro Γ hC hnt hnm J hJ L a
  match L with
  | 0 => exact pX11_tension_0 hC hnt J hJ a
  | L + 1 => exact c_no
/-! SpiritWallModel.tensest()I -/
theorem dX11_tensest_0 : decode cX11_tensest 0 = .ok (.aload_n 0, 1) := by decide +kernel
theorem dX11_tensest_1 : decode cX11_tensest 1 = .ok (.iconst 0, 1) := by decide +kernel
theorem dX11_tensest_2 : decode cX11_tensest 2 = .ok (.putfield 67, 3) := by decide +kernel
theorem dX11_tensest_5 : decode cX11_tensest 5 = .ok (.aload_n 0, 1) := by decide +kernel
theorem dX11_tensest_6 : decode cX11_tensest 6 = .ok (.invokevirtual 244, 3) := by decide +kernel
theorem dX11_tensest_9 : decode cX11_tensest 9 = .ok (.iconst (-1), 1) := by decide +kernel
theorem dX11_tensest_10 : decode cX11_tensest 10 = .ok (.istore_n 1, 1) := by decide +kernel
theorem dX11_tensest_11 : decode cX11_tensest 11 = .ok (.iconst 0, 1) := by decide +kernel
theorem dX11_tensest_12 : decode cX11_tensest 12 = .ok (.istore_n 2, 1) := by decide +kernel
theorem dX11_tensest_13 : decode cX11_tensest 13 = .ok (.iconst 0, 1) := by decide +kernel
theorem dX11_tensest_14 : decode cX11_tensest 14 = .ok (.istore_n 3, 1) := by decide +kernel
theorem dX11_tensest_15 : decode cX11_tensest 15 = .ok (.iload_n 3, 1) := by decide +kernel
theorem dX11_tensest_16 : decode cX11_tensest 16 = .ok (.aload_n 0, 1) := by decide +kernel
theorem dX11_tensest_17 : decode cX11_tensest 17 = .ok (.invokevirtual 85, 3) := by decide +kernel
theorem dX11_tensest_20 : decode cX11_tensest 20 = .ok (.if_icmp .ge 42, 3) := by decide +kernel
theorem dX11_tensest_23 : decode cX11_tensest 23 = .ok (.aload_n 0, 1) := by decide +kernel
theorem dX11_tensest_24 : decode cX11_tensest 24 = .ok (.iload_n 3, 1) := by decide +kernel
theorem dX11_tensest_25 : decode cX11_tensest 25 = .ok (.invokevirtual 241, 3) := by decide +kernel
theorem dX11_tensest_28 : decode cX11_tensest 28 = .ok (.ifCond .eq 11, 3) := by decide +kernel
theorem dX11_tensest_31 : decode cX11_tensest 31 = .ok (.aload_n 0, 1) := by decide +kernel
theorem dX11_tensest_32 : decode cX11_tensest 32 = .ok (.iload_n 3, 1) := by decide +kernel
theorem dX11_tensest_33 : decode cX11_tensest 33 = .ok (.invokevirtual 325, 3) := by decide +kernel
theorem dX11_tensest_36 : decode cX11_tensest 36 = .ok (.goto 4, 3) := by decide +kernel
theorem dX11_tensest_39 : decode cX11_tensest 39 = .ok (.iconst 0, 1) := by decide +kernel
theorem dX11_tensest_40 : decode cX11_tensest 40 = .ok (.istore 4, 2) := by decide +kernel
theorem dX11_tensest_42 : decode cX11_tensest 42 = .ok (.iload 4, 2) := by decide +kernel
theorem dX11_tensest_44 : decode cX11_tensest 44 = .ok (.iload_n 2, 1) := by decide +kernel
theorem dX11_tensest_45 : decode cX11_tensest 45 = .ok (.if_icmp .gt 6, 3) := by decide +kernel
theorem dX11_tensest_48 : decode cX11_tensest 48 = .ok (.goto 8, 3) := by decide +kernel
theorem dX11_tensest_51 : decode cX11_tensest 51 = .ok (.iload_n 3, 1) := by decide +kernel
theorem dX11_tensest_52 : decode cX11_tensest 52 = .ok (.istore_n 1, 1) := by decide +kernel
theorem dX11_tensest_53 : decode cX11_tensest 53 = .ok (.iload 4, 2) := by decide +kernel
theorem dX11_tensest_55 : decode cX11_tensest 55 = .ok (.istore_n 2, 1) := by decide +kernel
theorem dX11_tensest_56 : decode cX11_tensest 56 = .ok (.iinc 3 1, 3) := by decide +kernel
theorem dX11_tensest_59 : decode cX11_tensest 59 = .ok (.goto (-44), 3) := by decide +kernel
theorem dX11_tensest_62 : decode cX11_tensest 62 = .ok (.iload_n 1, 1) := by decide +kernel
theorem dX11_tensest_63 : decode cX11_tensest 63 = .ok (.ireturn, 1) := by decide +kernel
def rmX11_tensest : Room := rmk 15 0 0 357
theorem nX11_tensest : nameOk yX11_tensest 0 = true := by decide +kernel
def bX11_tensest_0 (J : JT) : List Value → Sem
  | [.ref x0] =>
    pI 11 0 x0 0 <|
    ob 11 x0 (cV SX11_reckons [.ref x0] <|
    J 1 [.ref x0, .int (-1), .int 0, .int 0])
  | _ => no
def bX11_tensest_1 (J : JT) : List Value → Sem
  | [.ref x0, .int x1, .int x2, .int x3] =>
    ob 11 x0 (cI SX11_marks [.ref x0] fun v1 =>
    br (v1 ≤ x3)
    (rI x1)
    (ob 11 x0 (cI SX11_hasHeight [.ref x0, .int x3] fun v2 =>
    br (v2 = 0)
    (br (x2 < (0 : Int32))
    (J 1 [.ref x0, .int x3, .int 0, .int (x3 + 1)])
    (J 1 [.ref x0, .int x1, .int x2, .int (x3 + 1)]))
    (ob 11 x0 (cI SX11_tensionOf [.ref x0, .int x3] fun v3 =>
    br (x2 < v3)
    (J 1 [.ref x0, .int x3, .int v3, .int (x3 + 1)])
    (J 1 [.ref x0, .int x1, .int x2, .int (x3 + 1)]))))))
  | _ => no
def bX11_tensest (J : JT) : JT := fun L a => match L with
  | 0 => bX11_tensest_0 J a
  | 1 => bX11_tensest_1 J a
  | _ => no
def SX11_tensest : ST := mk 5 bX11_tensest
def lX11_tensest (L : Nat) (a : List Value) : Nat × Nat × Nat × List (Nat × Value) × List Value := match L with
  | 0 => (0, 0, 0, lv_args 0 a, [])
  | 1 => (0, 0, 15, List.zip [0, 1, 2, 3] a, [])
  | _ => (0, 0, 0, [], [])
theorem pX11_tensest_0 {Γ : CT} (hC : Ctx Γ "SpiritWallModel" cX11_tensest 5 (some .int) rmX11_tensest) (hnt : NT Γ) (J : JT) (hJ : ∀ L a, Cor Γ 5 (lX11_tensest L a).1 (lX11_tensest L a).2.1 (lX11_tensest L a).2.2.1 (lX11_tensest L a).2.2.2.1 (lX11_tensest L a).2.2.2.2 (J L a)) (a : List Value) : Cor Γ 5 0 0 0 (lv_args 0 a) [] (bX11_tensest_0 J a) := by
  unfold bX11_tensest_0
  split
  · rename_i x0
    refine c_sub [0] rfl (loc' := [(0, .ref x0)]) ?_
    refine q_aload_n hC 0 dX11_tensest_0 rfl rfl ?_
    refine q_iconst hC dX11_tensest_1 rfl ?_
    refine q_putI hC (by decide) (by decide) rfl rfl w_833 dX11_tensest_2 ?_
    refine q_aload_n hC 0 dX11_tensest_5 rfl rfl ?_
    refine q_cVV hC hnt (stk := []) (as := []) sX11_reckons (ci := 11) (by decide) rfl nX11_reckons rfl w_1016 w_1018 w_1019 w_830 w_1017 (Nat.le_of_ble_eq_true rfl) dX11_tensest_6 rfl ?_
    refine q_iconst hC dX11_tensest_9 rfl ?_
    refine q_istore_nA hC (loc' := [(1, .int (-1)), (0, .ref x0)]) dX11_tensest_10 rfl (Nat.le_of_ble_eq_true rfl) rfl ?_
    refine q_iconst hC dX11_tensest_11 rfl ?_
    refine q_istore_nA hC (loc' := [(2, .int 0), (1, .int (-1)), (0, .ref x0)]) dX11_tensest_12 rfl (Nat.le_of_ble_eq_true rfl) rfl ?_
    refine q_iconst hC dX11_tensest_13 rfl ?_
    refine q_istore_nA hC (loc' := [(3, .int 0), (2, .int 0), (1, .int (-1)), (0, .ref x0)]) dX11_tensest_14 rfl (Nat.le_of_ble_eq_true rfl) rfl ?_
    exact c_sub [3, 2, 1, 0] rfl (hJ 1 [.ref x0, .int (-1), .int 0, .int 0])
  · exact c_no
theorem pX11_tensest_1 {Γ : CT} (hC : Ctx Γ "SpiritWallModel" cX11_tensest 5 (some .int) rmX11_tensest) (hnt : NT Γ) (J : JT) (hJ : ∀ L a, Cor Γ 5 (lX11_tensest L a).1 (lX11_tensest L a).2.1 (lX11_tensest L a).2.2.1 (lX11_tensest L a).2.2.2.1 (lX11_tensest L a).2.2.2.2 (J L a)) (a : List Value) : Cor Γ 5 0 0 15 (List.zip [0, 1, 2, 3] a) [] (bX11_tensest_1 J a) := by
  unfold bX11_tensest_1
  split
  · rename_i x0 x1 x2 x3
    refine c_sub [0, 1, 2, 3] rfl (loc' := [(0, .ref x0), (1, .int x1), (2, .int x2), (3, .int x3)]) ?_
    refine q_iload_n hC 3 dX11_tensest_15 rfl rfl ?_
    refine q_aload_n hC 0 dX11_tensest_16 rfl rfl ?_
    refine q_cVI hC hnt (stk := [.int x3]) (as := []) sX11_marks (ci := 11) (by decide) rfl nX11_marks rfl w_843 w_845 w_846 w_830 w_844 (Nat.le_of_ble_eq_true rfl) dX11_tensest_17 rfl (fun v1 => ?_)
    refine q_ic_ge hC 62 dX11_tensest_20 rfl ?_ ?_
    · refine q_iload_n hC 1 dX11_tensest_62 rfl rfl ?_
      exact q_iret hC dX11_tensest_63 (Nat.le_of_ble_eq_true rfl) (Nat.le_of_ble_eq_true rfl)
    · refine q_aload_n hC 0 dX11_tensest_23 rfl rfl ?_
      refine q_iload_n hC 3 dX11_tensest_24 rfl rfl ?_
      refine q_cVI hC hnt (stk := []) (as := [.int x3]) sX11_hasHeight (ci := 11) (by decide) rfl nX11_hasHeight rfl w_1012 w_1014 w_1015 w_830 w_1013 (Nat.le_of_ble_eq_true rfl) dX11_tensest_25 rfl (fun v2 => ?_)
      refine q_if_eq hC 39 dX11_tensest_28 rfl ?_ ?_
      · refine q_iconst hC dX11_tensest_39 rfl ?_
        refine q_istoreA hC (loc' := [(4, .int 0), (0, .ref x0), (1, .int x1), (2, .int x2), (3, .int x3)]) dX11_tensest_40 (Nat.le_of_ble_eq_true rfl) rfl ?_
        refine q_iload hC 0 dX11_tensest_42 rfl ?_
        refine q_iload_n hC 3 dX11_tensest_44 rfl rfl ?_
        refine q_ic_gt hC 51 dX11_tensest_45 rfl ?_ ?_
        · refine q_iload_n hC 4 dX11_tensest_51 rfl rfl ?_
          refine q_istore_nA hC (loc' := [(1, .int x3), (4, .int 0), (0, .ref x0), (2, .int x2), (3, .int x3)]) dX11_tensest_52 rfl (Nat.le_of_ble_eq_true rfl) rfl ?_
          refine q_iload hC 1 dX11_tensest_53 rfl ?_
          refine q_istore_nA hC (loc' := [(2, .int 0), (1, .int x3), (4, .int 0), (0, .ref x0), (3, .int x3)]) dX11_tensest_55 rfl (Nat.le_of_ble_eq_true rfl) rfl ?_
          refine q_iincA hC (loc' := [(3, .int (x3 + 1)), (2, .int 0), (1, .int x3), (4, .int 0), (0, .ref x0)]) 4 1 dX11_tensest_56 rfl rfl (Nat.le_of_ble_eq_true rfl) rfl ?_
          refine q_goto hC 15 dX11_tensest_59 rfl ?_
          exact c_sub [4, 2, 1, 0] rfl (hJ 1 [.ref x0, .int x3, .int 0, .int (x3 + 1)])
        · refine q_goto hC 56 dX11_tensest_48 rfl ?_
          refine q_iincA hC (loc' := [(3, .int (x3 + 1)), (4, .int 0), (0, .ref x0), (1, .int x1), (2, .int x2)]) 4 1 dX11_tensest_56 rfl rfl (Nat.le_of_ble_eq_true rfl) rfl ?_
          refine q_goto hC 15 dX11_tensest_59 rfl ?_
          exact c_sub [2, 3, 4, 0] rfl (hJ 1 [.ref x0, .int x1, .int x2, .int (x3 + 1)])
      · refine q_aload_n hC 0 dX11_tensest_31 rfl rfl ?_
        refine q_iload_n hC 3 dX11_tensest_32 rfl rfl ?_
        refine q_cVI hC hnt (stk := []) (as := [.int x3]) sX11_tensionOf (ci := 11) (by decide) rfl nX11_tensionOf rfl w_1112 w_1114 w_1115 w_830 w_1113 (Nat.le_of_ble_eq_true rfl) dX11_tensest_33 rfl (fun v3 => ?_)
        refine q_goto hC 40 dX11_tensest_36 rfl ?_
        refine q_istoreA hC (loc' := [(4, .int v3), (0, .ref x0), (1, .int x1), (2, .int x2), (3, .int x3)]) dX11_tensest_40 (Nat.le_of_ble_eq_true rfl) rfl ?_
        refine q_iload hC 0 dX11_tensest_42 rfl ?_
        refine q_iload_n hC 3 dX11_tensest_44 rfl rfl ?_
        refine q_ic_gt hC 51 dX11_tensest_45 rfl ?_ ?_
        · refine q_iload_n hC 4 dX11_tensest_51 rfl rfl ?_
          refine q_istore_nA hC (loc' := [(1, .int x3), (4, .int v3), (0, .ref x0), (2, .int x2), (3, .int x3)]) dX11_tensest_52 rfl (Nat.le_of_ble_eq_true rfl) rfl ?_
          refine q_iload hC 1 dX11_tensest_53 rfl ?_
          refine q_istore_nA hC (loc' := [(2, .int v3), (1, .int x3), (4, .int v3), (0, .ref x0), (3, .int x3)]) dX11_tensest_55 rfl (Nat.le_of_ble_eq_true rfl) rfl ?_
          refine q_iincA hC (loc' := [(3, .int (x3 + 1)), (2, .int v3), (1, .int x3), (4, .int v3), (0, .ref x0)]) 4 1 dX11_tensest_56 rfl rfl (Nat.le_of_ble_eq_true rfl) rfl ?_
          refine q_goto hC 15 dX11_tensest_59 rfl ?_
          exact c_sub [4, 2, 1, 0] rfl (hJ 1 [.ref x0, .int x3, .int v3, .int (x3 + 1)])
        · refine q_goto hC 56 dX11_tensest_48 rfl ?_
          refine q_iincA hC (loc' := [(3, .int (x3 + 1)), (4, .int v3), (0, .ref x0), (1, .int x1), (2, .int x2)]) 4 1 dX11_tensest_56 rfl rfl (Nat.le_of_ble_eq_true rfl) rfl ?_
          refine q_goto hC 15 dX11_tensest_59 rfl ?_
          exact c_sub [2, 3, 4, 0] rfl (hJ 1 [.ref x0, .int x1, .int x2, .int (x3 + 1)])
  · exact c_no
theorem sX11_tensest : Snd yX11_tensest (.code yX11_tensest cX11_tensest 5 (some .int)) rmX11_tensest SX11_tensest := by
  refine Snd.of lX11_tensest (by decide +kernel) (fun _ => rfl) ?_
  intro Γ hC hnt hnm J hJ L a
  match L with
  | 0 => exact pX11_tensest_0 hC hnt J hJ a
  | 1 => exact pX11_tensest_1 hC hnt J hJ a
  | L + 2 => exact c_no
/-! SpiritWallModel.neighbour(II)I -/
theorem dX11_neighbour_0 : decode cX11_neighbour 0 = .ok (.aload_n 0, 1) := by decide +kernel
theorem dX11_neighbour_1 : decode cX11_neighbour 1 = .ok (.aload_n 0, 1) := by decide +kernel
theorem dX11_neighbour_2 : decode cX11_neighbour 2 = .ok (.iload_n 1, 1) := by decide +kernel
theorem dX11_neighbour_3 : decode cX11_neighbour 3 = .ok (.invokevirtual 93, 3) := by decide +kernel
theorem dX11_neighbour_6 : decode cX11_neighbour 6 = .ok (.invokevirtual 77, 3) := by decide +kernel
theorem dX11_neighbour_9 : decode cX11_neighbour 9 = .ok (.ifCond .ne 5, 3) := by decide +kernel
theorem dX11_neighbour_12 : decode cX11_neighbour 12 = .ok (.iconst 0, 1) := by decide +kernel
theorem dX11_neighbour_13 : decode cX11_neighbour 13 = .ok (.ireturn, 1) := by decide +kernel
theorem dX11_neighbour_14 : decode cX11_neighbour 14 = .ok (.aload_n 0, 1) := by decide +kernel
theorem dX11_neighbour_15 : decode cX11_neighbour 15 = .ok (.invokevirtual 244, 3) := by decide +kernel
theorem dX11_neighbour_18 : decode cX11_neighbour 18 = .ok (.iload_n 2, 1) := by decide +kernel
theorem dX11_neighbour_19 : decode cX11_neighbour 19 = .ok (.istore_n 3, 1) := by decide +kernel
theorem dX11_neighbour_20 : decode cX11_neighbour 20 = .ok (.iconst 0, 1) := by decide +kernel
theorem dX11_neighbour_21 : decode cX11_neighbour 21 = .ok (.istore 4, 2) := by decide +kernel
theorem dX11_neighbour_23 : decode cX11_neighbour 23 = .ok (.iload 4, 2) := by decide +kernel
theorem dX11_neighbour_25 : decode cX11_neighbour 25 = .ok (.aload_n 0, 1) := by decide +kernel
theorem dX11_neighbour_26 : decode cX11_neighbour 26 = .ok (.invokevirtual 85, 3) := by decide +kernel
theorem dX11_neighbour_29 : decode cX11_neighbour 29 = .ok (.if_icmp .ge 37, 3) := by decide +kernel
theorem dX11_neighbour_32 : decode cX11_neighbour 32 = .ok (.iload_n 3, 1) := by decide +kernel
theorem dX11_neighbour_33 : decode cX11_neighbour 33 = .ok (.ifCond .lt 33, 3) := by decide +kernel
theorem dX11_neighbour_36 : decode cX11_neighbour 36 = .ok (.aload_n 0, 1) := by decide +kernel
theorem dX11_neighbour_37 : decode cX11_neighbour 37 = .ok (.iload_n 1, 1) := by decide +kernel
theorem dX11_neighbour_38 : decode cX11_neighbour 38 = .ok (.iload 4, 2) := by decide +kernel
theorem dX11_neighbour_40 : decode cX11_neighbour 40 = .ok (.invokevirtual 173, 3) := by decide +kernel
theorem dX11_neighbour_43 : decode cX11_neighbour 43 = .ok (.ifCond .ne 6, 3) := by decide +kernel
theorem dX11_neighbour_46 : decode cX11_neighbour 46 = .ok (.goto 14, 3) := by decide +kernel
theorem dX11_neighbour_49 : decode cX11_neighbour 49 = .ok (.iload_n 3, 1) := by decide +kernel
theorem dX11_neighbour_50 : decode cX11_neighbour 50 = .ok (.ifCond .ne 6, 3) := by decide +kernel
theorem dX11_neighbour_53 : decode cX11_neighbour 53 = .ok (.iload 4, 2) := by decide +kernel
theorem dX11_neighbour_55 : decode cX11_neighbour 55 = .ok (.ireturn, 1) := by decide +kernel
theorem dX11_neighbour_56 : decode cX11_neighbour 56 = .ok (.iload_n 3, 1) := by decide +kernel
theorem dX11_neighbour_57 : decode cX11_neighbour 57 = .ok (.iconst 1, 1) := by decide +kernel
theorem dX11_neighbour_58 : decode cX11_neighbour 58 = .ok (.isub, 1) := by decide +kernel
theorem dX11_neighbour_59 : decode cX11_neighbour 59 = .ok (.istore_n 3, 1) := by decide +kernel
theorem dX11_neighbour_60 : decode cX11_neighbour 60 = .ok (.iinc 4 1, 3) := by decide +kernel
theorem dX11_neighbour_63 : decode cX11_neighbour 63 = .ok (.goto (-40), 3) := by decide +kernel
theorem dX11_neighbour_66 : decode cX11_neighbour 66 = .ok (.iconst (-1), 1) := by decide +kernel
theorem dX11_neighbour_67 : decode cX11_neighbour 67 = .ok (.ireturn, 1) := by decide +kernel
def rmX11_neighbour : Room := rmk 15 0 0 357
theorem nX11_neighbour : nameOk yX11_neighbour 2 = true := by decide +kernel
def bX11_neighbour_0 (J : JT) : List Value → Sem
  | [.ref x0, .int x1, .int x2] =>
    ob 11 x0 (cI SX11_isMark [.ref x0, .int x1] fun v1 =>
    ob 11 x0 (cI SX11_is [.ref x0, .int v1] fun v2 =>
    br (v2 = 0)
    (rI 0)
    (ob 11 x0 (cV SX11_reckons [.ref x0] <|
    J 1 [.ref x0, .int x1, .int x2, .int 0]))))
  | _ => no
def bX11_neighbour_1 (J : JT) : List Value → Sem
  | [.ref x0, .int x1, .int x3, .int x4] =>
    ob 11 x0 (cI SX11_marks [.ref x0] fun v1 =>
    br (v1 ≤ x4)
    (rI (-1))
    (br (x3 < 0)
    (rI (-1))
    (ob 11 x0 (cI SX11_isEdge [.ref x0, .int x1, .int x4] fun v2 =>
    br (v2 = 0)
    (J 1 [.ref x0, .int x1, .int x3, .int (x4 + 1)])
    (br (x3 = 0)
    (rI x4)
    (lI (x3 - 1) fun y3_3 =>
    J 1 [.ref x0, .int x1, .int y3_3, .int (x4 + 1)]))))))
  | _ => no
def bX11_neighbour (J : JT) : JT := fun L a => match L with
  | 0 => bX11_neighbour_0 J a
  | 1 => bX11_neighbour_1 J a
  | _ => no
def SX11_neighbour : ST := mk 5 bX11_neighbour
def lX11_neighbour (L : Nat) (a : List Value) : Nat × Nat × Nat × List (Nat × Value) × List Value := match L with
  | 0 => (0, 0, 0, lv_args 0 a, [])
  | 1 => (0, 0, 23, List.zip [0, 1, 3, 4] a, [])
  | _ => (0, 0, 0, [], [])
theorem pX11_neighbour_0 {Γ : CT} (hC : Ctx Γ "SpiritWallModel" cX11_neighbour 5 (some .int) rmX11_neighbour) (hnt : NT Γ) (J : JT) (hJ : ∀ L a, Cor Γ 5 (lX11_neighbour L a).1 (lX11_neighbour L a).2.1 (lX11_neighbour L a).2.2.1 (lX11_neighbour L a).2.2.2.1 (lX11_neighbour L a).2.2.2.2 (J L a)) (a : List Value) : Cor Γ 5 0 0 0 (lv_args 0 a) [] (bX11_neighbour_0 J a) := by
  unfold bX11_neighbour_0
  split
  · rename_i x0 x1 x2
    refine c_sub [0, 1, 2] rfl (loc' := [(0, .ref x0), (1, .int x1), (2, .int x2)]) ?_
    refine q_aload_n hC 0 dX11_neighbour_0 rfl rfl ?_
    refine q_aload_n hC 0 dX11_neighbour_1 rfl rfl ?_
    refine q_iload_n hC 1 dX11_neighbour_2 rfl rfl ?_
    refine q_cVI hC hnt (stk := [.ref x0]) (as := [.int x1]) sX11_isMark (ci := 11) (by decide) rfl nX11_isMark rfl w_850 w_852 w_853 w_830 w_851 (Nat.le_of_ble_eq_true rfl) dX11_neighbour_3 rfl (fun v1 => ?_)
    refine q_cVI hC hnt (stk := []) (as := [.int v1]) sX11_is (ci := 11) (by decide) rfl nX11_is rfl w_838 w_840 w_841 w_830 w_839 (Nat.le_of_ble_eq_true rfl) dX11_neighbour_6 rfl (fun v2 => ?_)
    refine q_if_ne hC 14 dX11_neighbour_9 rfl ?_ ?_
    · refine q_aload_n hC 0 dX11_neighbour_14 rfl rfl ?_
      refine q_cVV hC hnt (stk := []) (as := []) sX11_reckons (ci := 11) (by decide) rfl nX11_reckons rfl w_1016 w_1018 w_1019 w_830 w_1017 (Nat.le_of_ble_eq_true rfl) dX11_neighbour_15 rfl ?_
      refine q_iload_n hC 2 dX11_neighbour_18 rfl rfl ?_
      refine q_istore_nA hC (loc' := [(3, .int x2), (0, .ref x0), (1, .int x1), (2, .int x2)]) dX11_neighbour_19 rfl (Nat.le_of_ble_eq_true rfl) rfl ?_
      refine q_iconst hC dX11_neighbour_20 rfl ?_
      refine q_istoreA hC (loc' := [(4, .int 0), (3, .int x2), (0, .ref x0), (1, .int x1), (2, .int x2)]) dX11_neighbour_21 (Nat.le_of_ble_eq_true rfl) rfl ?_
      exact c_sub [2, 3, 1, 0] rfl (hJ 1 [.ref x0, .int x1, .int x2, .int 0])
    · refine q_iconst hC dX11_neighbour_12 rfl ?_
      exact q_iret hC dX11_neighbour_13 (Nat.le_of_ble_eq_true rfl) (Nat.le_of_ble_eq_true rfl)
  · exact c_no
theorem pX11_neighbour_1 {Γ : CT} (hC : Ctx Γ "SpiritWallModel" cX11_neighbour 5 (some .int) rmX11_neighbour) (hnt : NT Γ) (J : JT) (hJ : ∀ L a, Cor Γ 5 (lX11_neighbour L a).1 (lX11_neighbour L a).2.1 (lX11_neighbour L a).2.2.1 (lX11_neighbour L a).2.2.2.1 (lX11_neighbour L a).2.2.2.2 (J L a)) (a : List Value) : Cor Γ 5 0 0 23 (List.zip [0, 1, 3, 4] a) [] (bX11_neighbour_1 J a) := by
  unfold bX11_neighbour_1
  split
  · rename_i x0 x1 x3 x4
    refine c_sub [0, 1, 2, 3] rfl (loc' := [(0, .ref x0), (1, .int x1), (3, .int x3), (4, .int x4)]) ?_
    refine q_iload hC 3 dX11_neighbour_23 rfl ?_
    refine q_aload_n hC 0 dX11_neighbour_25 rfl rfl ?_
    refine q_cVI hC hnt (stk := [.int x4]) (as := []) sX11_marks (ci := 11) (by decide) rfl nX11_marks rfl w_843 w_845 w_846 w_830 w_844 (Nat.le_of_ble_eq_true rfl) dX11_neighbour_26 rfl (fun v1 => ?_)
    refine q_ic_ge hC 66 dX11_neighbour_29 rfl ?_ ?_
    · refine q_iconst hC dX11_neighbour_66 rfl ?_
      exact q_iret hC dX11_neighbour_67 (Nat.le_of_ble_eq_true rfl) (Nat.le_of_ble_eq_true rfl)
    · refine q_iload_n hC 2 dX11_neighbour_32 rfl rfl ?_
      refine q_if_lt hC 66 dX11_neighbour_33 rfl ?_ ?_
      · refine q_iconst hC dX11_neighbour_66 rfl ?_
        exact q_iret hC dX11_neighbour_67 (Nat.le_of_ble_eq_true rfl) (Nat.le_of_ble_eq_true rfl)
      · refine q_aload_n hC 0 dX11_neighbour_36 rfl rfl ?_
        refine q_iload_n hC 1 dX11_neighbour_37 rfl rfl ?_
        refine q_iload hC 3 dX11_neighbour_38 rfl ?_
        refine q_cVI hC hnt (stk := []) (as := [.int x1, .int x4]) sX11_isEdge (ci := 11) (by decide) rfl nX11_isEdge rfl w_932 w_934 w_935 w_830 w_933 (Nat.le_of_ble_eq_true rfl) dX11_neighbour_40 rfl (fun v2 => ?_)
        refine q_if_ne hC 49 dX11_neighbour_43 rfl ?_ ?_
        · refine q_iload_n hC 2 dX11_neighbour_49 rfl rfl ?_
          refine q_if_ne hC 56 dX11_neighbour_50 rfl ?_ ?_
          · refine q_iload_n hC 2 dX11_neighbour_56 rfl rfl ?_
            refine q_iconst hC dX11_neighbour_57 rfl ?_
            refine q_isub hC dX11_neighbour_58 ?_
            refine q_istore_n hC (fun y3_3 => [(3, .int y3_3), (0, .ref x0), (1, .int x1), (4, .int x4)]) dX11_neighbour_59 rfl (Nat.le_of_ble_eq_true rfl) (fun _ => rfl) (fun y3_3 => ?_)
            refine q_iincA hC (loc' := [(4, .int (x4 + 1)), (3, .int y3_3), (0, .ref x0), (1, .int x1)]) 3 1 dX11_neighbour_60 rfl rfl (Nat.le_of_ble_eq_true rfl) rfl ?_
            refine q_goto hC 23 dX11_neighbour_63 rfl ?_
            exact c_sub [2, 3, 1, 0] rfl (hJ 1 [.ref x0, .int x1, .int y3_3, .int (x4 + 1)])
          · refine q_iload hC 3 dX11_neighbour_53 rfl ?_
            exact q_iret hC dX11_neighbour_55 (Nat.le_of_ble_eq_true rfl) (Nat.le_of_ble_eq_true rfl)
        · refine q_goto hC 60 dX11_neighbour_46 rfl ?_
          refine q_iincA hC (loc' := [(4, .int (x4 + 1)), (0, .ref x0), (1, .int x1), (3, .int x3)]) 3 1 dX11_neighbour_60 rfl rfl (Nat.le_of_ble_eq_true rfl) rfl ?_
          refine q_goto hC 23 dX11_neighbour_63 rfl ?_
          exact c_sub [1, 2, 3, 0] rfl (hJ 1 [.ref x0, .int x1, .int x3, .int (x4 + 1)])
  · exact c_no
theorem sX11_neighbour : Snd yX11_neighbour (.code yX11_neighbour cX11_neighbour 5 (some .int)) rmX11_neighbour SX11_neighbour := by
  refine Snd.of lX11_neighbour (by decide +kernel) (fun _ => rfl) ?_
  intro Γ hC hnt hnm J hJ L a
  match L with
  | 0 => exact pX11_neighbour_0 hC hnt J hJ a
  | 1 => exact pX11_neighbour_1 hC hnt J hJ a
  | L + 2 => exact c_no
/-! SpiritWallModel.hasMark(II)Z -/
theorem dX11_hasMark_0 : decode cX11_hasMark 0 = .ok (.aload_n 0, 1) := by decide +kernel
theorem dX11_hasMark_1 : decode cX11_hasMark 1 = .ok (.iload_n 1, 1) := by decide +kernel
theorem dX11_hasMark_2 : decode cX11_hasMark 2 = .ok (.invokevirtual 214, 3) := by decide +kernel
theorem dX11_hasMark_5 : decode cX11_hasMark 5 = .ok (.iconst 0, 1) := by decide +kernel
theorem dX11_hasMark_6 : decode cX11_hasMark 6 = .ok (.istore_n 3, 1) := by decide +kernel
theorem dX11_hasMark_7 : decode cX11_hasMark 7 = .ok (.iload_n 3, 1) := by decide +kernel
theorem dX11_hasMark_8 : decode cX11_hasMark 8 = .ok (.aload_n 0, 1) := by decide +kernel
theorem dX11_hasMark_9 : decode cX11_hasMark 9 = .ok (.getfield 192, 3) := by decide +kernel
theorem dX11_hasMark_12 : decode cX11_hasMark 12 = .ok (.if_icmp .ge 21, 3) := by decide +kernel
theorem dX11_hasMark_15 : decode cX11_hasMark 15 = .ok (.aload_n 0, 1) := by decide +kernel
theorem dX11_hasMark_16 : decode cX11_hasMark 16 = .ok (.getfield 47, 3) := by decide +kernel
theorem dX11_hasMark_19 : decode cX11_hasMark 19 = .ok (.iload_n 3, 1) := by decide +kernel
theorem dX11_hasMark_20 : decode cX11_hasMark 20 = .ok (.iaload, 1) := by decide +kernel
theorem dX11_hasMark_21 : decode cX11_hasMark 21 = .ok (.iload_n 2, 1) := by decide +kernel
theorem dX11_hasMark_22 : decode cX11_hasMark 22 = .ok (.if_icmp .ne 5, 3) := by decide +kernel
theorem dX11_hasMark_25 : decode cX11_hasMark 25 = .ok (.iconst 1, 1) := by decide +kernel
theorem dX11_hasMark_26 : decode cX11_hasMark 26 = .ok (.ireturn, 1) := by decide +kernel
theorem dX11_hasMark_27 : decode cX11_hasMark 27 = .ok (.iinc 3 1, 3) := by decide +kernel
theorem dX11_hasMark_30 : decode cX11_hasMark 30 = .ok (.goto (-23), 3) := by decide +kernel
theorem dX11_hasMark_33 : decode cX11_hasMark 33 = .ok (.iconst 0, 1) := by decide +kernel
theorem dX11_hasMark_34 : decode cX11_hasMark 34 = .ok (.ireturn, 1) := by decide +kernel
def rmX11_hasMark : Room := rmk 23 0 0 552
theorem nX11_hasMark : nameOk yX11_hasMark 2 = true := by decide +kernel
def bX11_hasMark_0 (J : JT) : List Value → Sem
  | [.ref x0, .int x1, .int x2] =>
    ob 11 x0 (cV SX11_goesLoop [.ref x0, .int x1] <|
    J 1 [.ref x0, .int x2, .int 0])
  | _ => no
def bX11_hasMark_1 (J : JT) : List Value → Sem
  | [.ref x0, .int x2, .int x3] =>
    gI 11 17 x0 fun v1 =>
    br (v1 ≤ x3)
    (rZ 0)
    (gR 11 16 x0 fun r2 =>
    aI r2 x3 fun v3 =>
    br (v3 = x2)
    (rZ 1)
    (J 1 [.ref x0, .int x2, .int (x3 + 1)]))
  | _ => no
def bX11_hasMark (J : JT) : JT := fun L a => match L with
  | 0 => bX11_hasMark_0 J a
  | 1 => bX11_hasMark_1 J a
  | _ => no
def SX11_hasMark : ST := mk 4 bX11_hasMark
def lX11_hasMark (L : Nat) (a : List Value) : Nat × Nat × Nat × List (Nat × Value) × List Value := match L with
  | 0 => (0, 0, 0, lv_args 0 a, [])
  | 1 => (0, 0, 7, List.zip [0, 2, 3] a, [])
  | _ => (0, 0, 0, [], [])
theorem pX11_hasMark_0 {Γ : CT} (hC : Ctx Γ "SpiritWallModel" cX11_hasMark 4 (some .boolean) rmX11_hasMark) (hnt : NT Γ) (J : JT) (hJ : ∀ L a, Cor Γ 4 (lX11_hasMark L a).1 (lX11_hasMark L a).2.1 (lX11_hasMark L a).2.2.1 (lX11_hasMark L a).2.2.2.1 (lX11_hasMark L a).2.2.2.2 (J L a)) (a : List Value) : Cor Γ 4 0 0 0 (lv_args 0 a) [] (bX11_hasMark_0 J a) := by
  unfold bX11_hasMark_0
  split
  · rename_i x0 x1 x2
    refine c_sub [0, 1, 2] rfl (loc' := [(0, .ref x0), (1, .int x1), (2, .int x2)]) ?_
    refine q_aload_n hC 0 dX11_hasMark_0 rfl rfl ?_
    refine q_iload_n hC 1 dX11_hasMark_1 rfl rfl ?_
    refine q_cVV hC hnt (stk := []) (as := [.int x1]) sX11_goesLoop (ci := 11) (by decide) rfl nX11_goesLoop rfl w_979 w_981 w_982 w_830 w_980 (Nat.le_of_ble_eq_true rfl) dX11_hasMark_2 rfl ?_
    refine q_iconst hC dX11_hasMark_5 rfl ?_
    refine q_istore_nA hC (loc' := [(3, .int 0), (0, .ref x0), (1, .int x1), (2, .int x2)]) dX11_hasMark_6 rfl (Nat.le_of_ble_eq_true rfl) rfl ?_
    exact c_sub [1, 3, 0] rfl (hJ 1 [.ref x0, .int x2, .int 0])
  · exact c_no
theorem pX11_hasMark_1 {Γ : CT} (hC : Ctx Γ "SpiritWallModel" cX11_hasMark 4 (some .boolean) rmX11_hasMark) (hnt : NT Γ) (J : JT) (hJ : ∀ L a, Cor Γ 4 (lX11_hasMark L a).1 (lX11_hasMark L a).2.1 (lX11_hasMark L a).2.2.1 (lX11_hasMark L a).2.2.2.1 (lX11_hasMark L a).2.2.2.2 (J L a)) (a : List Value) : Cor Γ 4 0 0 7 (List.zip [0, 2, 3] a) [] (bX11_hasMark_1 J a) := by
  unfold bX11_hasMark_1
  split
  · rename_i x0 x2 x3
    refine c_sub [0, 1, 2] rfl (loc' := [(0, .ref x0), (2, .int x2), (3, .int x3)]) ?_
    refine q_iload_n hC 2 dX11_hasMark_7 rfl rfl ?_
    refine q_aload_n hC 0 dX11_hasMark_8 rfl rfl ?_
    refine q_getI hC (by decide) (by decide) rfl w_954 dX11_hasMark_9 (fun v1 => ?_)
    refine q_ic_ge hC 33 dX11_hasMark_12 rfl ?_ ?_
    · refine q_iconst hC dX11_hasMark_33 rfl ?_
      exact q_zret hC dX11_hasMark_34 (Nat.le_of_ble_eq_true rfl) (Nat.le_of_ble_eq_true rfl)
    · refine q_aload_n hC 0 dX11_hasMark_15 rfl rfl ?_
      refine q_getR hC (by decide) (by decide) rfl w_821 dX11_hasMark_16 (fun r2 => ?_)
      refine q_iload_n hC 2 dX11_hasMark_19 rfl rfl ?_
      refine q_iald hC dX11_hasMark_20 (fun v3 => ?_)
      refine q_iload_n hC 1 dX11_hasMark_21 rfl rfl ?_
      refine q_ic_ne hC 27 dX11_hasMark_22 rfl ?_ ?_
      · refine q_iincA hC (loc' := [(3, .int (x3 + 1)), (0, .ref x0), (2, .int x2)]) 2 1 dX11_hasMark_27 rfl rfl (Nat.le_of_ble_eq_true rfl) rfl ?_
        refine q_goto hC 7 dX11_hasMark_30 rfl ?_
        exact c_sub [1, 2, 0] rfl (hJ 1 [.ref x0, .int x2, .int (x3 + 1)])
      · refine q_iconst hC dX11_hasMark_25 rfl ?_
        exact q_zret hC dX11_hasMark_26 (Nat.le_of_ble_eq_true rfl) (Nat.le_of_ble_eq_true rfl)
  · exact c_no
theorem sX11_hasMark : Snd yX11_hasMark (.code yX11_hasMark cX11_hasMark 4 (some .boolean)) rmX11_hasMark SX11_hasMark := by
  refine Snd.of lX11_hasMark (by decide +kernel) (fun _ => rfl) ?_
  intro Γ hC hnt hnm J hJ L a
  match L with
  | 0 => exact pX11_hasMark_0 hC hnt J hJ a
  | 1 => exact pX11_hasMark_1 hC hnt J hJ a
  | L + 2 => exact c_no
/-! SpiritWallModel.loopsOf(I)I -/
theorem dX11_loopsOf_0 : decode cX11_loopsOf 0 = .ok (.aload_n 0, 1) := by decide +kernel
theorem dX11_loopsOf_1 : decode cX11_loopsOf 1 = .ok (.aload_n 0, 1) := by decide +kernel
theorem dX11_loopsOf_2 : decode cX11_loopsOf 2 = .ok (.iload_n 1, 1) := by decide +kernel
theorem dX11_loopsOf_3 : decode cX11_loopsOf 3 = .ok (.invokevirtual 93, 3) := by decide +kernel
theorem dX11_loopsOf_6 : decode cX11_loopsOf 6 = .ok (.invokevirtual 77, 3) := by decide +kernel
theorem dX11_loopsOf_9 : decode cX11_loopsOf 9 = .ok (.ifCond .ne 5, 3) := by decide +kernel
theorem dX11_loopsOf_12 : decode cX11_loopsOf 12 = .ok (.iconst 0, 1) := by decide +kernel
theorem dX11_loopsOf_13 : decode cX11_loopsOf 13 = .ok (.ireturn, 1) := by decide +kernel
theorem dX11_loopsOf_14 : decode cX11_loopsOf 14 = .ok (.aload_n 0, 1) := by decide +kernel
theorem dX11_loopsOf_15 : decode cX11_loopsOf 15 = .ok (.invokevirtual 244, 3) := by decide +kernel
theorem dX11_loopsOf_18 : decode cX11_loopsOf 18 = .ok (.iconst 0, 1) := by decide +kernel
theorem dX11_loopsOf_19 : decode cX11_loopsOf 19 = .ok (.istore_n 2, 1) := by decide +kernel
theorem dX11_loopsOf_20 : decode cX11_loopsOf 20 = .ok (.iconst 0, 1) := by decide +kernel
theorem dX11_loopsOf_21 : decode cX11_loopsOf 21 = .ok (.istore_n 3, 1) := by decide +kernel
theorem dX11_loopsOf_22 : decode cX11_loopsOf 22 = .ok (.iload_n 3, 1) := by decide +kernel
theorem dX11_loopsOf_23 : decode cX11_loopsOf 23 = .ok (.aload_n 0, 1) := by decide +kernel
theorem dX11_loopsOf_24 : decode cX11_loopsOf 24 = .ok (.invokevirtual 235, 3) := by decide +kernel
theorem dX11_loopsOf_27 : decode cX11_loopsOf 27 = .ok (.if_icmp .ge 22, 3) := by decide +kernel
theorem dX11_loopsOf_30 : decode cX11_loopsOf 30 = .ok (.aload_n 0, 1) := by decide +kernel
theorem dX11_loopsOf_31 : decode cX11_loopsOf 31 = .ok (.iload_n 3, 1) := by decide +kernel
theorem dX11_loopsOf_32 : decode cX11_loopsOf 32 = .ok (.iload_n 1, 1) := by decide +kernel
theorem dX11_loopsOf_33 : decode cX11_loopsOf 33 = .ok (.invokevirtual 328, 3) := by decide +kernel
theorem dX11_loopsOf_36 : decode cX11_loopsOf 36 = .ok (.ifCond .eq 7, 3) := by decide +kernel
theorem dX11_loopsOf_39 : decode cX11_loopsOf 39 = .ok (.iload_n 2, 1) := by decide +kernel
theorem dX11_loopsOf_40 : decode cX11_loopsOf 40 = .ok (.iconst 1, 1) := by decide +kernel
theorem dX11_loopsOf_41 : decode cX11_loopsOf 41 = .ok (.iadd, 1) := by decide +kernel
theorem dX11_loopsOf_42 : decode cX11_loopsOf 42 = .ok (.istore_n 2, 1) := by decide +kernel
theorem dX11_loopsOf_43 : decode cX11_loopsOf 43 = .ok (.iinc 3 1, 3) := by decide +kernel
theorem dX11_loopsOf_46 : decode cX11_loopsOf 46 = .ok (.goto (-24), 3) := by decide +kernel
theorem dX11_loopsOf_49 : decode cX11_loopsOf 49 = .ok (.iload_n 2, 1) := by decide +kernel
theorem dX11_loopsOf_50 : decode cX11_loopsOf 50 = .ok (.ireturn, 1) := by decide +kernel
def rmX11_loopsOf : Room := rmk 24 0 0 575
theorem nX11_loopsOf : nameOk yX11_loopsOf 1 = true := by decide +kernel
def bX11_loopsOf_0 (J : JT) : List Value → Sem
  | [.ref x0, .int x1] =>
    ob 11 x0 (cI SX11_isMark [.ref x0, .int x1] fun v1 =>
    ob 11 x0 (cI SX11_is [.ref x0, .int v1] fun v2 =>
    br (v2 = 0)
    (rI 0)
    (ob 11 x0 (cV SX11_reckons [.ref x0] <|
    J 1 [.ref x0, .int x1, .int 0, .int 0]))))
  | _ => no
def bX11_loopsOf_1 (J : JT) : List Value → Sem
  | [.ref x0, .int x1, .int x2, .int x3] =>
    ob 11 x0 (cI SX11_loops [.ref x0] fun v1 =>
    br (v1 ≤ x3)
    (rI x2)
    (ob 11 x0 (cI SX11_hasMark [.ref x0, .int x3, .int x1] fun v2 =>
    br (v2 = 0)
    (J 1 [.ref x0, .int x1, .int x2, .int (x3 + 1)])
    (lI (x2 + 1) fun y2_3 =>
    J 1 [.ref x0, .int x1, .int y2_3, .int (x3 + 1)]))))
  | _ => no
def bX11_loopsOf (J : JT) : JT := fun L a => match L with
  | 0 => bX11_loopsOf_0 J a
  | 1 => bX11_loopsOf_1 J a
  | _ => no
def SX11_loopsOf : ST := mk 4 bX11_loopsOf
def lX11_loopsOf (L : Nat) (a : List Value) : Nat × Nat × Nat × List (Nat × Value) × List Value := match L with
  | 0 => (0, 0, 0, lv_args 0 a, [])
  | 1 => (0, 0, 22, List.zip [0, 1, 2, 3] a, [])
  | _ => (0, 0, 0, [], [])
theorem pX11_loopsOf_0 {Γ : CT} (hC : Ctx Γ "SpiritWallModel" cX11_loopsOf 4 (some .int) rmX11_loopsOf) (hnt : NT Γ) (J : JT) (hJ : ∀ L a, Cor Γ 4 (lX11_loopsOf L a).1 (lX11_loopsOf L a).2.1 (lX11_loopsOf L a).2.2.1 (lX11_loopsOf L a).2.2.2.1 (lX11_loopsOf L a).2.2.2.2 (J L a)) (a : List Value) : Cor Γ 4 0 0 0 (lv_args 0 a) [] (bX11_loopsOf_0 J a) := by
  unfold bX11_loopsOf_0
  split
  · rename_i x0 x1
    refine c_sub [0, 1] rfl (loc' := [(0, .ref x0), (1, .int x1)]) ?_
    refine q_aload_n hC 0 dX11_loopsOf_0 rfl rfl ?_
    refine q_aload_n hC 0 dX11_loopsOf_1 rfl rfl ?_
    refine q_iload_n hC 1 dX11_loopsOf_2 rfl rfl ?_
    refine q_cVI hC hnt (stk := [.ref x0]) (as := [.int x1]) sX11_isMark (ci := 11) (by decide) rfl nX11_isMark rfl w_850 w_852 w_853 w_830 w_851 (Nat.le_of_ble_eq_true rfl) dX11_loopsOf_3 rfl (fun v1 => ?_)
    refine q_cVI hC hnt (stk := []) (as := [.int v1]) sX11_is (ci := 11) (by decide) rfl nX11_is rfl w_838 w_840 w_841 w_830 w_839 (Nat.le_of_ble_eq_true rfl) dX11_loopsOf_6 rfl (fun v2 => ?_)
    refine q_if_ne hC 14 dX11_loopsOf_9 rfl ?_ ?_
    · refine q_aload_n hC 0 dX11_loopsOf_14 rfl rfl ?_
      refine q_cVV hC hnt (stk := []) (as := []) sX11_reckons (ci := 11) (by decide) rfl nX11_reckons rfl w_1016 w_1018 w_1019 w_830 w_1017 (Nat.le_of_ble_eq_true rfl) dX11_loopsOf_15 rfl ?_
      refine q_iconst hC dX11_loopsOf_18 rfl ?_
      refine q_istore_nA hC (loc' := [(2, .int 0), (0, .ref x0), (1, .int x1)]) dX11_loopsOf_19 rfl (Nat.le_of_ble_eq_true rfl) rfl ?_
      refine q_iconst hC dX11_loopsOf_20 rfl ?_
      refine q_istore_nA hC (loc' := [(3, .int 0), (2, .int 0), (0, .ref x0), (1, .int x1)]) dX11_loopsOf_21 rfl (Nat.le_of_ble_eq_true rfl) rfl ?_
      exact c_sub [2, 3, 1, 0] rfl (hJ 1 [.ref x0, .int x1, .int 0, .int 0])
    · refine q_iconst hC dX11_loopsOf_12 rfl ?_
      exact q_iret hC dX11_loopsOf_13 (Nat.le_of_ble_eq_true rfl) (Nat.le_of_ble_eq_true rfl)
  · exact c_no
theorem pX11_loopsOf_1 {Γ : CT} (hC : Ctx Γ "SpiritWallModel" cX11_loopsOf 4 (some .int) rmX11_loopsOf) (hnt : NT Γ) (J : JT) (hJ : ∀ L a, Cor Γ 4 (lX11_loopsOf L a).1 (lX11_loopsOf L a).2.1 (lX11_loopsOf L a).2.2.1 (lX11_loopsOf L a).2.2.2.1 (lX11_loopsOf L a).2.2.2.2 (J L a)) (a : List Value) : Cor Γ 4 0 0 22 (List.zip [0, 1, 2, 3] a) [] (bX11_loopsOf_1 J a) := by
  unfold bX11_loopsOf_1
  split
  · rename_i x0 x1 x2 x3
    refine c_sub [0, 1, 2, 3] rfl (loc' := [(0, .ref x0), (1, .int x1), (2, .int x2), (3, .int x3)]) ?_
    refine q_iload_n hC 3 dX11_loopsOf_22 rfl rfl ?_
    refine q_aload_n hC 0 dX11_loopsOf_23 rfl rfl ?_
    refine q_cVI hC hnt (stk := [.int x3]) (as := []) sX11_loops (ci := 11) (by decide) rfl nX11_loops rfl w_1004 w_1006 w_1007 w_830 w_1005 (Nat.le_of_ble_eq_true rfl) dX11_loopsOf_24 rfl (fun v1 => ?_)
    refine q_ic_ge hC 49 dX11_loopsOf_27 rfl ?_ ?_
    · refine q_iload_n hC 2 dX11_loopsOf_49 rfl rfl ?_
      exact q_iret hC dX11_loopsOf_50 (Nat.le_of_ble_eq_true rfl) (Nat.le_of_ble_eq_true rfl)
    · refine q_aload_n hC 0 dX11_loopsOf_30 rfl rfl ?_
      refine q_iload_n hC 3 dX11_loopsOf_31 rfl rfl ?_
      refine q_iload_n hC 1 dX11_loopsOf_32 rfl rfl ?_
      refine q_cVI hC hnt (stk := []) (as := [.int x3, .int x1]) sX11_hasMark (ci := 11) (by decide) rfl nX11_hasMark rfl w_1116 w_1118 w_1119 w_830 w_1117 (Nat.le_of_ble_eq_true rfl) dX11_loopsOf_33 rfl (fun v2 => ?_)
      refine q_if_eq hC 43 dX11_loopsOf_36 rfl ?_ ?_
      · refine q_iincA hC (loc' := [(3, .int (x3 + 1)), (0, .ref x0), (1, .int x1), (2, .int x2)]) 3 1 dX11_loopsOf_43 rfl rfl (Nat.le_of_ble_eq_true rfl) rfl ?_
        refine q_goto hC 22 dX11_loopsOf_46 rfl ?_
        exact c_sub [1, 2, 3, 0] rfl (hJ 1 [.ref x0, .int x1, .int x2, .int (x3 + 1)])
      · refine q_iload_n hC 2 dX11_loopsOf_39 rfl rfl ?_
        refine q_iconst hC dX11_loopsOf_40 rfl ?_
        refine q_iadd hC dX11_loopsOf_41 ?_
        refine q_istore_n hC (fun y2_3 => [(2, .int y2_3), (0, .ref x0), (1, .int x1), (3, .int x3)]) dX11_loopsOf_42 rfl (Nat.le_of_ble_eq_true rfl) (fun _ => rfl) (fun y2_3 => ?_)
        refine q_iincA hC (loc' := [(3, .int (x3 + 1)), (2, .int y2_3), (0, .ref x0), (1, .int x1)]) 3 1 dX11_loopsOf_43 rfl rfl (Nat.le_of_ble_eq_true rfl) rfl ?_
        refine q_goto hC 22 dX11_loopsOf_46 rfl ?_
        exact c_sub [2, 3, 1, 0] rfl (hJ 1 [.ref x0, .int x1, .int y2_3, .int (x3 + 1)])
  · exact c_no
theorem sX11_loopsOf : Snd yX11_loopsOf (.code yX11_loopsOf cX11_loopsOf 4 (some .int)) rmX11_loopsOf SX11_loopsOf := by
  refine Snd.of lX11_loopsOf (by decide +kernel) (fun _ => rfl) ?_
  intro Γ hC hnt hnm J hJ L a
  match L with
  | 0 => exact pX11_loopsOf_0 hC hnt J hJ a
  | 1 => exact pX11_loopsOf_1 hC hnt J hJ a
  | L + 2 => exact c_no
/-! SpiritWallModel.bridges()I -/
theorem dX11_bridges_0 : decode cX11_bridges 0 = .ok (.aload_n 0, 1) := by decide +kernel
theorem dX11_bridges_1 : decode cX11_bridges 1 = .ok (.iconst 0, 1) := by decide +kernel
theorem dX11_bridges_2 : decode cX11_bridges 2 = .ok (.putfield 67, 3) := by decide +kernel
theorem dX11_bridges_5 : decode cX11_bridges 5 = .ok (.aload_n 0, 1) := by decide +kernel
theorem dX11_bridges_6 : decode cX11_bridges 6 = .ok (.invokevirtual 244, 3) := by decide +kernel
theorem dX11_bridges_9 : decode cX11_bridges 9 = .ok (.iconst 0, 1) := by decide +kernel
theorem dX11_bridges_10 : decode cX11_bridges 10 = .ok (.istore_n 1, 1) := by decide +kernel
theorem dX11_bridges_11 : decode cX11_bridges 11 = .ok (.iconst 0, 1) := by decide +kernel
theorem dX11_bridges_12 : decode cX11_bridges 12 = .ok (.istore_n 2, 1) := by decide +kernel
theorem dX11_bridges_13 : decode cX11_bridges 13 = .ok (.iload_n 2, 1) := by decide +kernel
theorem dX11_bridges_14 : decode cX11_bridges 14 = .ok (.sipush 144, 3) := by decide +kernel
theorem dX11_bridges_17 : decode cX11_bridges 17 = .ok (.if_icmp .ge 31, 3) := by decide +kernel
theorem dX11_bridges_20 : decode cX11_bridges 20 = .ok (.aload_n 0, 1) := by decide +kernel
theorem dX11_bridges_21 : decode cX11_bridges 21 = .ok (.getfield 31, 3) := by decide +kernel
theorem dX11_bridges_24 : decode cX11_bridges 24 = .ok (.iload_n 2, 1) := by decide +kernel
theorem dX11_bridges_25 : decode cX11_bridges 25 = .ok (.iaload, 1) := by decide +kernel
theorem dX11_bridges_26 : decode cX11_bridges 26 = .ok (.ifCond .le 16, 3) := by decide +kernel
theorem dX11_bridges_29 : decode cX11_bridges 29 = .ok (.aload_n 0, 1) := by decide +kernel
theorem dX11_bridges_30 : decode cX11_bridges 30 = .ok (.iload_n 2, 1) := by decide +kernel
theorem dX11_bridges_31 : decode cX11_bridges 31 = .ok (.iconst 0, 1) := by decide +kernel
theorem dX11_bridges_32 : decode cX11_bridges 32 = .ok (.invokevirtual 306, 3) := by decide +kernel
theorem dX11_bridges_35 : decode cX11_bridges 35 = .ok (.ifCond .ne 7, 3) := by decide +kernel
theorem dX11_bridges_38 : decode cX11_bridges 38 = .ok (.iload_n 1, 1) := by decide +kernel
theorem dX11_bridges_39 : decode cX11_bridges 39 = .ok (.iconst 1, 1) := by decide +kernel
theorem dX11_bridges_40 : decode cX11_bridges 40 = .ok (.iadd, 1) := by decide +kernel
theorem dX11_bridges_41 : decode cX11_bridges 41 = .ok (.istore_n 1, 1) := by decide +kernel
theorem dX11_bridges_42 : decode cX11_bridges 42 = .ok (.iinc 2 1, 3) := by decide +kernel
theorem dX11_bridges_45 : decode cX11_bridges 45 = .ok (.goto (-32), 3) := by decide +kernel
theorem dX11_bridges_48 : decode cX11_bridges 48 = .ok (.iload_n 1, 1) := by decide +kernel
theorem dX11_bridges_49 : decode cX11_bridges 49 = .ok (.ireturn, 1) := by decide +kernel
def rmX11_bridges : Room := rmk 27 0 0 643
theorem nX11_bridges : nameOk yX11_bridges 0 = true := by decide +kernel
def bX11_bridges_0 (J : JT) : List Value → Sem
  | [.ref x0] =>
    pI 11 0 x0 0 <|
    ob 11 x0 (cV SX11_reckons [.ref x0] <|
    J 1 [.ref x0, .int 0, .int 0])
  | _ => no
def bX11_bridges_1 (J : JT) : List Value → Sem
  | [.ref x0, .int x1, .int x2] =>
    br ((144 : Int32) ≤ x2)
    (rI x1)
    (gR 11 11 x0 fun r1 =>
    aI r1 x2 fun v2 =>
    br (v2 ≤ 0)
    (J 1 [.ref x0, .int x1, .int (x2 + 1)])
    (ob 11 x0 (cI SX11_loopsWith [.ref x0, .int x2, .int 0] fun v3 =>
    br (v3 = 0)
    (lI (x1 + 1) fun y1_4 =>
    J 1 [.ref x0, .int y1_4, .int (x2 + 1)])
    (J 1 [.ref x0, .int x1, .int (x2 + 1)]))))
  | _ => no
def bX11_bridges (J : JT) : JT := fun L a => match L with
  | 0 => bX11_bridges_0 J a
  | 1 => bX11_bridges_1 J a
  | _ => no
def SX11_bridges : ST := mk 3 bX11_bridges
def lX11_bridges (L : Nat) (a : List Value) : Nat × Nat × Nat × List (Nat × Value) × List Value := match L with
  | 0 => (0, 0, 0, lv_args 0 a, [])
  | 1 => (0, 0, 13, List.zip [0, 1, 2] a, [])
  | _ => (0, 0, 0, [], [])
theorem pX11_bridges_0 {Γ : CT} (hC : Ctx Γ "SpiritWallModel" cX11_bridges 3 (some .int) rmX11_bridges) (hnt : NT Γ) (J : JT) (hJ : ∀ L a, Cor Γ 3 (lX11_bridges L a).1 (lX11_bridges L a).2.1 (lX11_bridges L a).2.2.1 (lX11_bridges L a).2.2.2.1 (lX11_bridges L a).2.2.2.2 (J L a)) (a : List Value) : Cor Γ 3 0 0 0 (lv_args 0 a) [] (bX11_bridges_0 J a) := by
  unfold bX11_bridges_0
  split
  · rename_i x0
    refine c_sub [0] rfl (loc' := [(0, .ref x0)]) ?_
    refine q_aload_n hC 0 dX11_bridges_0 rfl rfl ?_
    refine q_iconst hC dX11_bridges_1 rfl ?_
    refine q_putI hC (by decide) (by decide) rfl rfl w_833 dX11_bridges_2 ?_
    refine q_aload_n hC 0 dX11_bridges_5 rfl rfl ?_
    refine q_cVV hC hnt (stk := []) (as := []) sX11_reckons (ci := 11) (by decide) rfl nX11_reckons rfl w_1016 w_1018 w_1019 w_830 w_1017 (Nat.le_of_ble_eq_true rfl) dX11_bridges_6 rfl ?_
    refine q_iconst hC dX11_bridges_9 rfl ?_
    refine q_istore_nA hC (loc' := [(1, .int 0), (0, .ref x0)]) dX11_bridges_10 rfl (Nat.le_of_ble_eq_true rfl) rfl ?_
    refine q_iconst hC dX11_bridges_11 rfl ?_
    refine q_istore_nA hC (loc' := [(2, .int 0), (1, .int 0), (0, .ref x0)]) dX11_bridges_12 rfl (Nat.le_of_ble_eq_true rfl) rfl ?_
    exact c_sub [2, 1, 0] rfl (hJ 1 [.ref x0, .int 0, .int 0])
  · exact c_no
theorem pX11_bridges_1 {Γ : CT} (hC : Ctx Γ "SpiritWallModel" cX11_bridges 3 (some .int) rmX11_bridges) (hnt : NT Γ) (J : JT) (hJ : ∀ L a, Cor Γ 3 (lX11_bridges L a).1 (lX11_bridges L a).2.1 (lX11_bridges L a).2.2.1 (lX11_bridges L a).2.2.2.1 (lX11_bridges L a).2.2.2.2 (J L a)) (a : List Value) : Cor Γ 3 0 0 13 (List.zip [0, 1, 2] a) [] (bX11_bridges_1 J a) := by
  unfold bX11_bridges_1
  split
  · rename_i x0 x1 x2
    refine c_sub [0, 1, 2] rfl (loc' := [(0, .ref x0), (1, .int x1), (2, .int x2)]) ?_
    refine q_iload_n hC 2 dX11_bridges_13 rfl rfl ?_
    refine q_sipush hC (v := 144) dX11_bridges_14 rfl ?_
    refine q_ic_ge hC 48 dX11_bridges_17 rfl ?_ ?_
    · refine q_iload_n hC 1 dX11_bridges_48 rfl rfl ?_
      exact q_iret hC dX11_bridges_49 (Nat.le_of_ble_eq_true rfl) (Nat.le_of_ble_eq_true rfl)
    · refine q_aload_n hC 0 dX11_bridges_20 rfl rfl ?_
      refine q_getR hC (by decide) (by decide) rfl w_816 dX11_bridges_21 (fun r1 => ?_)
      refine q_iload_n hC 2 dX11_bridges_24 rfl rfl ?_
      refine q_iald hC dX11_bridges_25 (fun v2 => ?_)
      refine q_if_le hC 42 dX11_bridges_26 rfl ?_ ?_
      · refine q_iincA hC (loc' := [(2, .int (x2 + 1)), (0, .ref x0), (1, .int x1)]) 2 1 dX11_bridges_42 rfl rfl (Nat.le_of_ble_eq_true rfl) rfl ?_
        refine q_goto hC 13 dX11_bridges_45 rfl ?_
        exact c_sub [1, 2, 0] rfl (hJ 1 [.ref x0, .int x1, .int (x2 + 1)])
      · refine q_aload_n hC 0 dX11_bridges_29 rfl rfl ?_
        refine q_iload_n hC 2 dX11_bridges_30 rfl rfl ?_
        refine q_iconst hC dX11_bridges_31 rfl ?_
        refine q_cVI hC hnt (stk := []) (as := [.int x2, .int 0]) sX11_loopsWith (ci := 11) (by decide) rfl nX11_loopsWith rfl w_1091 w_1093 w_1094 w_830 w_1092 (Nat.le_of_ble_eq_true rfl) dX11_bridges_32 rfl (fun v3 => ?_)
        refine q_if_ne hC 42 dX11_bridges_35 rfl ?_ ?_
        · refine q_iincA hC (loc' := [(2, .int (x2 + 1)), (0, .ref x0), (1, .int x1)]) 2 1 dX11_bridges_42 rfl rfl (Nat.le_of_ble_eq_true rfl) rfl ?_
          refine q_goto hC 13 dX11_bridges_45 rfl ?_
          exact c_sub [1, 2, 0] rfl (hJ 1 [.ref x0, .int x1, .int (x2 + 1)])
        · refine q_iload_n hC 1 dX11_bridges_38 rfl rfl ?_
          refine q_iconst hC dX11_bridges_39 rfl ?_
          refine q_iadd hC dX11_bridges_40 ?_
          refine q_istore_n hC (fun y1_4 => [(1, .int y1_4), (0, .ref x0), (2, .int x2)]) dX11_bridges_41 rfl (Nat.le_of_ble_eq_true rfl) (fun _ => rfl) (fun y1_4 => ?_)
          refine q_iincA hC (loc' := [(2, .int (x2 + 1)), (1, .int y1_4), (0, .ref x0)]) 2 1 dX11_bridges_42 rfl rfl (Nat.le_of_ble_eq_true rfl) rfl ?_
          refine q_goto hC 13 dX11_bridges_45 rfl ?_
          exact c_sub [2, 1, 0] rfl (hJ 1 [.ref x0, .int y1_4, .int (x2 + 1)])
  · exact c_no
theorem sX11_bridges : Snd yX11_bridges (.code yX11_bridges cX11_bridges 3 (some .int)) rmX11_bridges SX11_bridges := by
  refine Snd.of lX11_bridges (by decide +kernel) (fun _ => rfl) ?_
  intro Γ hC hnt hnm J hJ L a
  match L with
  | 0 => exact pX11_bridges_0 hC hnt J hJ a
  | 1 => exact pX11_bridges_1 hC hnt J hJ a
  | L + 2 => exact c_no
/-! SpiritWallModel.meanSwings()D -/
theorem dX11_meanSwings_0 : decode cX11_meanSwings 0 = .ok (.aload_n 0, 1) := by decide +kernel
theorem dX11_meanSwings_1 : decode cX11_meanSwings 1 = .ok (.iconst 0, 1) := by decide +kernel
theorem dX11_meanSwings_2 : decode cX11_meanSwings 2 = .ok (.putfield 67, 3) := by decide +kernel
theorem dX11_meanSwings_5 : decode cX11_meanSwings 5 = .ok (.iconst 0, 1) := by decide +kernel
theorem dX11_meanSwings_6 : decode cX11_meanSwings 6 = .ok (.istore_n 1, 1) := by decide +kernel
theorem dX11_meanSwings_7 : decode cX11_meanSwings 7 = .ok (.iconst 0, 1) := by decide +kernel
theorem dX11_meanSwings_8 : decode cX11_meanSwings 8 = .ok (.istore_n 2, 1) := by decide +kernel
theorem dX11_meanSwings_9 : decode cX11_meanSwings 9 = .ok (.iconst 0, 1) := by decide +kernel
theorem dX11_meanSwings_10 : decode cX11_meanSwings 10 = .ok (.istore_n 3, 1) := by decide +kernel
theorem dX11_meanSwings_11 : decode cX11_meanSwings 11 = .ok (.iload_n 3, 1) := by decide +kernel
theorem dX11_meanSwings_12 : decode cX11_meanSwings 12 = .ok (.aload_n 0, 1) := by decide +kernel
theorem dX11_meanSwings_13 : decode cX11_meanSwings 13 = .ok (.invokevirtual 97, 3) := by decide +kernel
theorem dX11_meanSwings_16 : decode cX11_meanSwings 16 = .ok (.if_icmp .ge 43, 3) := by decide +kernel
theorem dX11_meanSwings_19 : decode cX11_meanSwings 19 = .ok (.aload_n 0, 1) := by decide +kernel
theorem dX11_meanSwings_20 : decode cX11_meanSwings 20 = .ok (.iload_n 3, 1) := by decide +kernel
theorem dX11_meanSwings_21 : decode cX11_meanSwings 21 = .ok (.invokevirtual 141, 3) := by decide +kernel
theorem dX11_meanSwings_24 : decode cX11_meanSwings 24 = .ok (.ifCond .ne 6, 3) := by decide +kernel
theorem dX11_meanSwings_27 : decode cX11_meanSwings 27 = .ok (.goto 26, 3) := by decide +kernel
theorem dX11_meanSwings_30 : decode cX11_meanSwings 30 = .ok (.iload_n 1, 1) := by decide +kernel
theorem dX11_meanSwings_31 : decode cX11_meanSwings 31 = .ok (.aload_n 0, 1) := by decide +kernel
theorem dX11_meanSwings_32 : decode cX11_meanSwings 32 = .ok (.aload_n 0, 1) := by decide +kernel
theorem dX11_meanSwings_33 : decode cX11_meanSwings 33 = .ok (.iload_n 3, 1) := by decide +kernel
theorem dX11_meanSwings_34 : decode cX11_meanSwings 34 = .ok (.iconst 0, 1) := by decide +kernel
theorem dX11_meanSwings_35 : decode cX11_meanSwings 35 = .ok (.invokevirtual 100, 3) := by decide +kernel
theorem dX11_meanSwings_38 : decode cX11_meanSwings 38 = .ok (.aload_n 0, 1) := by decide +kernel
theorem dX11_meanSwings_39 : decode cX11_meanSwings 39 = .ok (.iload_n 3, 1) := by decide +kernel
theorem dX11_meanSwings_40 : decode cX11_meanSwings 40 = .ok (.iconst 1, 1) := by decide +kernel
theorem dX11_meanSwings_41 : decode cX11_meanSwings 41 = .ok (.invokevirtual 100, 3) := by decide +kernel
theorem dX11_meanSwings_44 : decode cX11_meanSwings 44 = .ok (.invokevirtual 116, 3) := by decide +kernel
theorem dX11_meanSwings_47 : decode cX11_meanSwings 47 = .ok (.iadd, 1) := by decide +kernel
theorem dX11_meanSwings_48 : decode cX11_meanSwings 48 = .ok (.istore_n 1, 1) := by decide +kernel
theorem dX11_meanSwings_49 : decode cX11_meanSwings 49 = .ok (.iload_n 2, 1) := by decide +kernel
theorem dX11_meanSwings_50 : decode cX11_meanSwings 50 = .ok (.iconst 1, 1) := by decide +kernel
theorem dX11_meanSwings_51 : decode cX11_meanSwings 51 = .ok (.iadd, 1) := by decide +kernel
theorem dX11_meanSwings_52 : decode cX11_meanSwings 52 = .ok (.istore_n 2, 1) := by decide +kernel
theorem dX11_meanSwings_53 : decode cX11_meanSwings 53 = .ok (.iinc 3 1, 3) := by decide +kernel
theorem dX11_meanSwings_56 : decode cX11_meanSwings 56 = .ok (.goto (-45), 3) := by decide +kernel
theorem dX11_meanSwings_59 : decode cX11_meanSwings 59 = .ok (.iload_n 2, 1) := by decide +kernel
theorem dX11_meanSwings_60 : decode cX11_meanSwings 60 = .ok (.ifCond .ne 7, 3) := by decide +kernel
theorem dX11_meanSwings_63 : decode cX11_meanSwings 63 = .ok (.dconst 0, 1) := by decide +kernel
theorem dX11_meanSwings_64 : decode cX11_meanSwings 64 = .ok (.goto 8, 3) := by decide +kernel
theorem dX11_meanSwings_67 : decode cX11_meanSwings 67 = .ok (.iload_n 1, 1) := by decide +kernel
theorem dX11_meanSwings_68 : decode cX11_meanSwings 68 = .ok (.i2d, 1) := by decide +kernel
theorem dX11_meanSwings_69 : decode cX11_meanSwings 69 = .ok (.iload_n 2, 1) := by decide +kernel
theorem dX11_meanSwings_70 : decode cX11_meanSwings 70 = .ok (.i2d, 1) := by decide +kernel
theorem dX11_meanSwings_71 : decode cX11_meanSwings 71 = .ok (.ddiv, 1) := by decide +kernel
theorem dX11_meanSwings_72 : decode cX11_meanSwings 72 = .ok (.dreturn, 1) := by decide +kernel
def rmX11_meanSwings : Room := rmk 9 0 0 216
theorem nX11_meanSwings : nameOk yX11_meanSwings 0 = true := by decide +kernel
def bX11_meanSwings_0 (J : JT) : List Value → Sem
  | [.ref x0] =>
    pI 11 0 x0 0 <|
    J 1 [.ref x0, .int 0, .int 0, .int 0]
  | _ => no
def bX11_meanSwings_1 (J : JT) : List Value → Sem
  | [.ref x0, .int x1, .int x2, .int x3] =>
    ob 11 x0 (cI SX11_sights [.ref x0] fun v1 =>
    br (v1 ≤ x3)
    (br (x2 = 0)
    (rD FP.dconst0)
    (nan64 (FP.ddiv (FP.i2d x1) (FP.i2d x2)) <|
    rD (FP.ddiv (FP.i2d x1) (FP.i2d x2))))
    (ob 11 x0 (cI SX11_counts [.ref x0, .int x3] fun v2 =>
    br (v2 = 0)
    (J 1 [.ref x0, .int x1, .int x2, .int (x3 + 1)])
    (ob 11 x0 (cI SX11_ofSight [.ref x0, .int x3, .int 0] fun v3 =>
    ob 11 x0 (cI SX11_ofSight [.ref x0, .int x3, .int 1] fun v4 =>
    ob 11 x0 (cI SX11_swingsOf [.ref x0, .int v3, .int v4] fun v5 =>
    lI (x1 + v5) fun y1_6 =>
    lI (x2 + 1) fun y2_7 =>
    J 1 [.ref x0, .int y1_6, .int y2_7, .int (x3 + 1)])))))))
  | _ => no
def bX11_meanSwings (J : JT) : JT := fun L a => match L with
  | 0 => bX11_meanSwings_0 J a
  | 1 => bX11_meanSwings_1 J a
  | _ => no
def SX11_meanSwings : ST := mk 4 bX11_meanSwings
def lX11_meanSwings (L : Nat) (a : List Value) : Nat × Nat × Nat × List (Nat × Value) × List Value := match L with
  | 0 => (0, 0, 0, lv_args 0 a, [])
  | 1 => (0, 0, 11, List.zip [0, 1, 2, 3] a, [])
  | _ => (0, 0, 0, [], [])
theorem pX11_meanSwings_0 {Γ : CT} (hC : Ctx Γ "SpiritWallModel" cX11_meanSwings 4 (some .double) rmX11_meanSwings) (hnt : NT Γ) (J : JT) (hJ : ∀ L a, Cor Γ 4 (lX11_meanSwings L a).1 (lX11_meanSwings L a).2.1 (lX11_meanSwings L a).2.2.1 (lX11_meanSwings L a).2.2.2.1 (lX11_meanSwings L a).2.2.2.2 (J L a)) (a : List Value) : Cor Γ 4 0 0 0 (lv_args 0 a) [] (bX11_meanSwings_0 J a) := by
  unfold bX11_meanSwings_0
  split
  · rename_i x0
    refine c_sub [0] rfl (loc' := [(0, .ref x0)]) ?_
    refine q_aload_n hC 0 dX11_meanSwings_0 rfl rfl ?_
    refine q_iconst hC dX11_meanSwings_1 rfl ?_
    refine q_putI hC (by decide) (by decide) rfl rfl w_833 dX11_meanSwings_2 ?_
    refine q_iconst hC dX11_meanSwings_5 rfl ?_
    refine q_istore_nA hC (loc' := [(1, .int 0), (0, .ref x0)]) dX11_meanSwings_6 rfl (Nat.le_of_ble_eq_true rfl) rfl ?_
    refine q_iconst hC dX11_meanSwings_7 rfl ?_
    refine q_istore_nA hC (loc' := [(2, .int 0), (1, .int 0), (0, .ref x0)]) dX11_meanSwings_8 rfl (Nat.le_of_ble_eq_true rfl) rfl ?_
    refine q_iconst hC dX11_meanSwings_9 rfl ?_
    refine q_istore_nA hC (loc' := [(3, .int 0), (2, .int 0), (1, .int 0), (0, .ref x0)]) dX11_meanSwings_10 rfl (Nat.le_of_ble_eq_true rfl) rfl ?_
    exact c_sub [3, 2, 1, 0] rfl (hJ 1 [.ref x0, .int 0, .int 0, .int 0])
  · exact c_no
theorem pX11_meanSwings_1 {Γ : CT} (hC : Ctx Γ "SpiritWallModel" cX11_meanSwings 4 (some .double) rmX11_meanSwings) (hnt : NT Γ) (J : JT) (hJ : ∀ L a, Cor Γ 4 (lX11_meanSwings L a).1 (lX11_meanSwings L a).2.1 (lX11_meanSwings L a).2.2.1 (lX11_meanSwings L a).2.2.2.1 (lX11_meanSwings L a).2.2.2.2 (J L a)) (a : List Value) : Cor Γ 4 0 0 11 (List.zip [0, 1, 2, 3] a) [] (bX11_meanSwings_1 J a) := by
  unfold bX11_meanSwings_1
  split
  · rename_i x0 x1 x2 x3
    refine c_sub [0, 1, 2, 3] rfl (loc' := [(0, .ref x0), (1, .int x1), (2, .int x2), (3, .int x3)]) ?_
    refine q_iload_n hC 3 dX11_meanSwings_11 rfl rfl ?_
    refine q_aload_n hC 0 dX11_meanSwings_12 rfl rfl ?_
    refine q_cVI hC hnt (stk := [.int x3]) (as := []) sX11_sights (ci := 11) (by decide) rfl nX11_sights rfl w_854 w_856 w_857 w_830 w_855 (Nat.le_of_ble_eq_true rfl) dX11_meanSwings_13 rfl (fun v1 => ?_)
    refine q_ic_ge hC 59 dX11_meanSwings_16 rfl ?_ ?_
    · refine q_iload_n hC 2 dX11_meanSwings_59 rfl rfl ?_
      refine q_if_ne hC 67 dX11_meanSwings_60 rfl ?_ ?_
      · refine q_iload_n hC 1 dX11_meanSwings_67 rfl rfl ?_
        refine q_i2d hC dX11_meanSwings_68 ?_
        refine q_iload_n hC 2 dX11_meanSwings_69 rfl rfl ?_
        refine q_i2d hC dX11_meanSwings_70 ?_
        refine q_ddiv hC dX11_meanSwings_71 ?_
        exact q_dret hC dX11_meanSwings_72 (Nat.le_of_ble_eq_true rfl) (Nat.le_of_ble_eq_true rfl)
      · refine q_dconst0 hC dX11_meanSwings_63 ?_
        refine q_goto hC 72 dX11_meanSwings_64 rfl ?_
        exact q_dret hC dX11_meanSwings_72 (Nat.le_of_ble_eq_true rfl) (Nat.le_of_ble_eq_true rfl)
    · refine q_aload_n hC 0 dX11_meanSwings_19 rfl rfl ?_
      refine q_iload_n hC 3 dX11_meanSwings_20 rfl rfl ?_
      refine q_cVI hC hnt (stk := []) (as := [.int x3]) sX11_counts (ci := 11) (by decide) rfl nX11_counts rfl w_895 w_897 w_898 w_830 w_896 (Nat.le_of_ble_eq_true rfl) dX11_meanSwings_21 rfl (fun v2 => ?_)
      refine q_if_ne hC 30 dX11_meanSwings_24 rfl ?_ ?_
      · refine q_iload_n hC 1 dX11_meanSwings_30 rfl rfl ?_
        refine q_aload_n hC 0 dX11_meanSwings_31 rfl rfl ?_
        refine q_aload_n hC 0 dX11_meanSwings_32 rfl rfl ?_
        refine q_iload_n hC 3 dX11_meanSwings_33 rfl rfl ?_
        refine q_iconst hC dX11_meanSwings_34 rfl ?_
        refine q_cVI hC hnt (stk := [.ref x0, .int x1]) (as := [.int x3, .int 0]) sX11_ofSight (ci := 11) (by decide) rfl nX11_ofSight rfl w_858 w_860 w_861 w_830 w_859 (Nat.le_of_ble_eq_true rfl) dX11_meanSwings_35 rfl (fun v3 => ?_)
        refine q_aload_n hC 0 dX11_meanSwings_38 rfl rfl ?_
        refine q_iload_n hC 3 dX11_meanSwings_39 rfl rfl ?_
        refine q_iconst hC dX11_meanSwings_40 rfl ?_
        refine q_cVI hC hnt (stk := [.int v3, .ref x0, .int x1]) (as := [.int x3, .int 1]) sX11_ofSight (ci := 11) (by decide) rfl nX11_ofSight rfl w_858 w_860 w_861 w_830 w_859 (Nat.le_of_ble_eq_true rfl) dX11_meanSwings_41 rfl (fun v4 => ?_)
        refine q_cVI hC hnt (stk := [.int x1]) (as := [.int v3, .int v4]) sX11_swingsOf (ci := 11) (by decide) rfl nX11_swingsOf rfl w_871 w_873 w_874 w_830 w_872 (Nat.le_of_ble_eq_true rfl) dX11_meanSwings_44 rfl (fun v5 => ?_)
        refine q_iadd hC dX11_meanSwings_47 ?_
        refine q_istore_n hC (fun y1_6 => [(1, .int y1_6), (0, .ref x0), (2, .int x2), (3, .int x3)]) dX11_meanSwings_48 rfl (Nat.le_of_ble_eq_true rfl) (fun _ => rfl) (fun y1_6 => ?_)
        refine q_iload_n hC 2 dX11_meanSwings_49 rfl rfl ?_
        refine q_iconst hC dX11_meanSwings_50 rfl ?_
        refine q_iadd hC dX11_meanSwings_51 ?_
        refine q_istore_n hC (fun y2_7 => [(2, .int y2_7), (1, .int y1_6), (0, .ref x0), (3, .int x3)]) dX11_meanSwings_52 rfl (Nat.le_of_ble_eq_true rfl) (fun _ => rfl) (fun y2_7 => ?_)
        refine q_iincA hC (loc' := [(3, .int (x3 + 1)), (2, .int y2_7), (1, .int y1_6), (0, .ref x0)]) 3 1 dX11_meanSwings_53 rfl rfl (Nat.le_of_ble_eq_true rfl) rfl ?_
        refine q_goto hC 11 dX11_meanSwings_56 rfl ?_
        exact c_sub [3, 2, 1, 0] rfl (hJ 1 [.ref x0, .int y1_6, .int y2_7, .int (x3 + 1)])
      · refine q_goto hC 53 dX11_meanSwings_27 rfl ?_
        refine q_iincA hC (loc' := [(3, .int (x3 + 1)), (0, .ref x0), (1, .int x1), (2, .int x2)]) 3 1 dX11_meanSwings_53 rfl rfl (Nat.le_of_ble_eq_true rfl) rfl ?_
        refine q_goto hC 11 dX11_meanSwings_56 rfl ?_
        exact c_sub [1, 2, 3, 0] rfl (hJ 1 [.ref x0, .int x1, .int x2, .int (x3 + 1)])
  · exact c_no
theorem sX11_meanSwings : Snd yX11_meanSwings (.code yX11_meanSwings cX11_meanSwings 4 (some .double)) rmX11_meanSwings SX11_meanSwings := by
  refine Snd.of lX11_meanSwings (by decide +kernel) (fun _ => rfl) ?_
  intro Γ hC hnt hnm J hJ L a
  match L with
  | 0 => exact pX11_meanSwings_0 hC hnt J hJ a
  | 1 => exact pX11_meanSwings_1 hC hnt J hJ a
  | L + 2 => exact c_no
/-! SpiritWallModel.closedShare()F -/
theorem dX11_closedShare_0 : decode cX11_closedShare 0 = .ok (.aload_n 0, 1) := by decide +kernel
theorem dX11_closedShare_1 : decode cX11_closedShare 1 = .ok (.iconst 0, 1) := by decide +kernel
theorem dX11_closedShare_2 : decode cX11_closedShare 2 = .ok (.putfield 67, 3) := by decide +kernel
theorem dX11_closedShare_5 : decode cX11_closedShare 5 = .ok (.aload_n 0, 1) := by decide +kernel
theorem dX11_closedShare_6 : decode cX11_closedShare 6 = .ok (.invokevirtual 244, 3) := by decide +kernel
theorem dX11_closedShare_9 : decode cX11_closedShare 9 = .ok (.aload_n 0, 1) := by decide +kernel
theorem dX11_closedShare_10 : decode cX11_closedShare 10 = .ok (.invokevirtual 235, 3) := by decide +kernel
theorem dX11_closedShare_13 : decode cX11_closedShare 13 = .ok (.ifCond .ne 7, 3) := by decide +kernel
theorem dX11_closedShare_16 : decode cX11_closedShare 16 = .ok (.fconst 1, 1) := by decide +kernel
theorem dX11_closedShare_17 : decode cX11_closedShare 17 = .ok (.goto 14, 3) := by decide +kernel
theorem dX11_closedShare_20 : decode cX11_closedShare 20 = .ok (.aload_n 0, 1) := by decide +kernel
theorem dX11_closedShare_21 : decode cX11_closedShare 21 = .ok (.invokevirtual 266, 3) := by decide +kernel
theorem dX11_closedShare_24 : decode cX11_closedShare 24 = .ok (.i2f, 1) := by decide +kernel
theorem dX11_closedShare_25 : decode cX11_closedShare 25 = .ok (.aload_n 0, 1) := by decide +kernel
theorem dX11_closedShare_26 : decode cX11_closedShare 26 = .ok (.invokevirtual 235, 3) := by decide +kernel
theorem dX11_closedShare_29 : decode cX11_closedShare 29 = .ok (.i2f, 1) := by decide +kernel
theorem dX11_closedShare_30 : decode cX11_closedShare 30 = .ok (.fdiv, 1) := by decide +kernel
theorem dX11_closedShare_31 : decode cX11_closedShare 31 = .ok (.freturn, 1) := by decide +kernel
def rmX11_closedShare : Room := rmk 27 0 0 641
theorem nX11_closedShare : nameOk yX11_closedShare 0 = true := by decide +kernel
def bX11_closedShare_0 (J : JT) : List Value → Sem
  | [.ref x0] =>
    pI 11 0 x0 0 <|
    ob 11 x0 (cV SX11_reckons [.ref x0] <|
    ob 11 x0 (cI SX11_loops [.ref x0] fun v1 =>
    br (v1 = 0)
    (rF FP.fconst1)
    (ob 11 x0 (cI SX11_closing [.ref x0] fun v2 =>
    ob 11 x0 (cI SX11_loops [.ref x0] fun v3 =>
    nan32 (FP.fdiv (FP.i2f v2) (FP.i2f v3)) <|
    rF (FP.fdiv (FP.i2f v2) (FP.i2f v3)))))))
  | _ => no
def bX11_closedShare (J : JT) : JT := fun L a => match L with
  | 0 => bX11_closedShare_0 J a
  | _ => no
def SX11_closedShare : ST := mk 1 bX11_closedShare
def lX11_closedShare (L : Nat) (a : List Value) : Nat × Nat × Nat × List (Nat × Value) × List Value := match L with
  | 0 => (0, 0, 0, lv_args 0 a, [])
  | _ => (0, 0, 0, [], [])
theorem pX11_closedShare_0 {Γ : CT} (hC : Ctx Γ "SpiritWallModel" cX11_closedShare 1 (some .float) rmX11_closedShare) (hnt : NT Γ) (J : JT) (hJ : ∀ L a, Cor Γ 1 (lX11_closedShare L a).1 (lX11_closedShare L a).2.1 (lX11_closedShare L a).2.2.1 (lX11_closedShare L a).2.2.2.1 (lX11_closedShare L a).2.2.2.2 (J L a)) (a : List Value) : Cor Γ 1 0 0 0 (lv_args 0 a) [] (bX11_closedShare_0 J a) := by
  unfold bX11_closedShare_0
  split
  · rename_i x0
    refine c_sub [0] rfl (loc' := [(0, .ref x0)]) ?_
    refine q_aload_n hC 0 dX11_closedShare_0 rfl rfl ?_
    refine q_iconst hC dX11_closedShare_1 rfl ?_
    refine q_putI hC (by decide) (by decide) rfl rfl w_833 dX11_closedShare_2 ?_
    refine q_aload_n hC 0 dX11_closedShare_5 rfl rfl ?_
    refine q_cVV hC hnt (stk := []) (as := []) sX11_reckons (ci := 11) (by decide) rfl nX11_reckons rfl w_1016 w_1018 w_1019 w_830 w_1017 (Nat.le_of_ble_eq_true rfl) dX11_closedShare_6 rfl ?_
    refine q_aload_n hC 0 dX11_closedShare_9 rfl rfl ?_
    refine q_cVI hC hnt (stk := []) (as := []) sX11_loops (ci := 11) (by decide) rfl nX11_loops rfl w_1004 w_1006 w_1007 w_830 w_1005 (Nat.le_of_ble_eq_true rfl) dX11_closedShare_10 rfl (fun v1 => ?_)
    refine q_if_ne hC 20 dX11_closedShare_13 rfl ?_ ?_
    · refine q_aload_n hC 0 dX11_closedShare_20 rfl rfl ?_
      refine q_cVI hC hnt (stk := []) (as := []) sX11_closing (ci := 11) (by decide) rfl nX11_closing rfl w_1044 w_1046 w_1047 w_830 w_1045 (Nat.le_of_ble_eq_true rfl) dX11_closedShare_21 rfl (fun v2 => ?_)
      refine q_i2f hC dX11_closedShare_24 ?_
      refine q_aload_n hC 0 dX11_closedShare_25 rfl rfl ?_
      refine q_cVI hC hnt (stk := [.float (FP.i2f v2)]) (as := []) sX11_loops (ci := 11) (by decide) rfl nX11_loops rfl w_1004 w_1006 w_1007 w_830 w_1005 (Nat.le_of_ble_eq_true rfl) dX11_closedShare_26 rfl (fun v3 => ?_)
      refine q_i2f hC dX11_closedShare_29 ?_
      refine q_fdiv hC dX11_closedShare_30 ?_
      exact q_fret hC dX11_closedShare_31 (Nat.le_of_ble_eq_true rfl) (Nat.le_of_ble_eq_true rfl)
    · refine q_fconst1 hC dX11_closedShare_16 ?_
      refine q_goto hC 31 dX11_closedShare_17 rfl ?_
      exact q_fret hC dX11_closedShare_31 (Nat.le_of_ble_eq_true rfl) (Nat.le_of_ble_eq_true rfl)
  · exact c_no
theorem sX11_closedShare : Snd yX11_closedShare (.code yX11_closedShare cX11_closedShare 1 (some .float)) rmX11_closedShare SX11_closedShare := by
  refine Snd.of lX11_closedShare (by decide +kernel) (fun _ => rfl) ?_
  intro Γ hC hnt hnm J hJ L a
  match L with
  | 0 => exact pX11_closedShare_0 hC hnt J hJ a
  | L + 1 => exact c_no
/-! SpiritWallModel.turns(I)V -/
theorem dX11_turns_0 : decode cX11_turns 0 = .ok (.aload_n 0, 1) := by decide +kernel
theorem dX11_turns_1 : decode cX11_turns 1 = .ok (.iload_n 1, 1) := by decide +kernel
theorem dX11_turns_2 : decode cX11_turns 2 = .ok (.iconst 5, 1) := by decide +kernel
theorem dX11_turns_3 : decode cX11_turns 3 = .ok (.iconst 1, 1) := by decide +kernel
theorem dX11_turns_4 : decode cX11_turns 4 = .ok (.aload_n 0, 1) := by decide +kernel
theorem dX11_turns_5 : decode cX11_turns 5 = .ok (.iload_n 1, 1) := by decide +kernel
theorem dX11_turns_6 : decode cX11_turns 6 = .ok (.iconst 5, 1) := by decide +kernel
theorem dX11_turns_7 : decode cX11_turns 7 = .ok (.invokevirtual 100, 3) := by decide +kernel
theorem dX11_turns_10 : decode cX11_turns 10 = .ok (.isub, 1) := by decide +kernel
theorem dX11_turns_11 : decode cX11_turns 11 = .ok (.invokevirtual 331, 3) := by decide +kernel
theorem dX11_turns_14 : decode cX11_turns 14 = .ok (.aload_n 0, 1) := by decide +kernel
theorem dX11_turns_15 : decode cX11_turns 15 = .ok (.invokevirtual 244, 3) := by decide +kernel
theorem dX11_turns_18 : decode cX11_turns 18 = .ok (.return_, 1) := by decide +kernel
def rmX11_turns : Room := rmk 15 0 0 357
theorem nX11_turns : nameOk yX11_turns 1 = true := by decide +kernel
def bX11_turns_0 (J : JT) : List Value → Sem
  | [.ref x0, .int x1] =>
    ob 11 x0 (cI SX11_ofSight [.ref x0, .int x1, .int 5] fun v1 =>
    ob 11 x0 (cV SX11_laysSight [.ref x0, .int x1, .int 5, .int (1 - v1)] <|
    ob 11 x0 (cV SX11_reckons [.ref x0] <|
    rV)))
  | _ => no
def bX11_turns (J : JT) : JT := fun L a => match L with
  | 0 => bX11_turns_0 J a
  | _ => no
def SX11_turns : ST := mk 2 bX11_turns
def lX11_turns (L : Nat) (a : List Value) : Nat × Nat × Nat × List (Nat × Value) × List Value := match L with
  | 0 => (0, 0, 0, lv_args 0 a, [])
  | _ => (0, 0, 0, [], [])
theorem pX11_turns_0 {Γ : CT} (hC : Ctx Γ "SpiritWallModel" cX11_turns 2 none rmX11_turns) (hnt : NT Γ) (J : JT) (hJ : ∀ L a, Cor Γ 2 (lX11_turns L a).1 (lX11_turns L a).2.1 (lX11_turns L a).2.2.1 (lX11_turns L a).2.2.2.1 (lX11_turns L a).2.2.2.2 (J L a)) (a : List Value) : Cor Γ 2 0 0 0 (lv_args 0 a) [] (bX11_turns_0 J a) := by
  unfold bX11_turns_0
  split
  · rename_i x0 x1
    refine c_sub [0, 1] rfl (loc' := [(0, .ref x0), (1, .int x1)]) ?_
    refine q_aload_n hC 0 dX11_turns_0 rfl rfl ?_
    refine q_iload_n hC 1 dX11_turns_1 rfl rfl ?_
    refine q_iconst hC dX11_turns_2 rfl ?_
    refine q_iconst hC dX11_turns_3 rfl ?_
    refine q_aload_n hC 0 dX11_turns_4 rfl rfl ?_
    refine q_iload_n hC 1 dX11_turns_5 rfl rfl ?_
    refine q_iconst hC dX11_turns_6 rfl ?_
    refine q_cVI hC hnt (stk := [.int 1, .int 5, .int x1, .ref x0]) (as := [.int x1, .int 5]) sX11_ofSight (ci := 11) (by decide) rfl nX11_ofSight rfl w_858 w_860 w_861 w_830 w_859 (Nat.le_of_ble_eq_true rfl) dX11_turns_7 rfl (fun v1 => ?_)
    refine q_isub hC dX11_turns_10 ?_
    refine q_cVV hC hnt (stk := []) (as := [.int x1, .int 5, .int (1 - v1)]) sX11_laysSight (ci := 11) (by decide) rfl nX11_laysSight rfl w_1120 w_1122 w_1123 w_830 w_1121 (Nat.le_of_ble_eq_true rfl) dX11_turns_11 rfl ?_
    refine q_aload_n hC 0 dX11_turns_14 rfl rfl ?_
    refine q_cVV hC hnt (stk := []) (as := []) sX11_reckons (ci := 11) (by decide) rfl nX11_reckons rfl w_1016 w_1018 w_1019 w_830 w_1017 (Nat.le_of_ble_eq_true rfl) dX11_turns_15 rfl ?_
    exact q_vret hC dX11_turns_18 (Nat.le_of_ble_eq_true rfl) (Nat.le_of_ble_eq_true rfl)
  · exact c_no
theorem sX11_turns : Snd yX11_turns (.code yX11_turns cX11_turns 2 none) rmX11_turns SX11_turns := by
  refine Snd.of lX11_turns (by decide +kernel) (fun _ => rfl) ?_
  intro Γ hC hnt hnm J hJ L a
  match L with
  | 0 => exact pX11_turns_0 hC hnt J hJ a
  | L + 1 => exact c_no
/-! SpiritWallModel.closedIf(I)I -/
theorem dX11_closedIf_0 : decode cX11_closedIf 0 = .ok (.aload_n 0, 1) := by decide +kernel
theorem dX11_closedIf_1 : decode cX11_closedIf 1 = .ok (.aload_n 0, 1) := by decide +kernel
theorem dX11_closedIf_2 : decode cX11_closedIf 2 = .ok (.iload_n 1, 1) := by decide +kernel
theorem dX11_closedIf_3 : decode cX11_closedIf 3 = .ok (.invokevirtual 296, 3) := by decide +kernel
theorem dX11_closedIf_6 : decode cX11_closedIf 6 = .ok (.invokevirtual 77, 3) := by decide +kernel
theorem dX11_closedIf_9 : decode cX11_closedIf 9 = .ok (.ifCond .ne 5, 3) := by decide +kernel
theorem dX11_closedIf_12 : decode cX11_closedIf 12 = .ok (.iconst 0, 1) := by decide +kernel
theorem dX11_closedIf_13 : decode cX11_closedIf 13 = .ok (.ireturn, 1) := by decide +kernel
theorem dX11_closedIf_14 : decode cX11_closedIf 14 = .ok (.aload_n 0, 1) := by decide +kernel
theorem dX11_closedIf_15 : decode cX11_closedIf 15 = .ok (.iload_n 1, 1) := by decide +kernel
theorem dX11_closedIf_16 : decode cX11_closedIf 16 = .ok (.invokevirtual 334, 3) := by decide +kernel
theorem dX11_closedIf_19 : decode cX11_closedIf 19 = .ok (.aload_n 0, 1) := by decide +kernel
theorem dX11_closedIf_20 : decode cX11_closedIf 20 = .ok (.invokevirtual 266, 3) := by decide +kernel
theorem dX11_closedIf_23 : decode cX11_closedIf 23 = .ok (.istore_n 2, 1) := by decide +kernel
theorem dX11_closedIf_24 : decode cX11_closedIf 24 = .ok (.aload_n 0, 1) := by decide +kernel
theorem dX11_closedIf_25 : decode cX11_closedIf 25 = .ok (.iload_n 1, 1) := by decide +kernel
theorem dX11_closedIf_26 : decode cX11_closedIf 26 = .ok (.invokevirtual 334, 3) := by decide +kernel
theorem dX11_closedIf_29 : decode cX11_closedIf 29 = .ok (.iload_n 2, 1) := by decide +kernel
theorem dX11_closedIf_30 : decode cX11_closedIf 30 = .ok (.ireturn, 1) := by decide +kernel
def rmX11_closedIf : Room := rmk 27 0 0 641
theorem nX11_closedIf : nameOk yX11_closedIf 1 = true := by decide +kernel
def bX11_closedIf_0 (J : JT) : List Value → Sem
  | [.ref x0, .int x1] =>
    ob 11 x0 (cI SX11_isSight [.ref x0, .int x1] fun v1 =>
    ob 11 x0 (cI SX11_is [.ref x0, .int v1] fun v2 =>
    br (v2 = 0)
    (rI 0)
    (ob 11 x0 (cV SX11_turns [.ref x0, .int x1] <|
    ob 11 x0 (cI SX11_closing [.ref x0] fun v3 =>
    ob 11 x0 (cV SX11_turns [.ref x0, .int x1] <|
    rI v3))))))
  | _ => no
def bX11_closedIf (J : JT) : JT := fun L a => match L with
  | 0 => bX11_closedIf_0 J a
  | _ => no
def SX11_closedIf : ST := mk 3 bX11_closedIf
def lX11_closedIf (L : Nat) (a : List Value) : Nat × Nat × Nat × List (Nat × Value) × List Value := match L with
  | 0 => (0, 0, 0, lv_args 0 a, [])
  | _ => (0, 0, 0, [], [])
theorem pX11_closedIf_0 {Γ : CT} (hC : Ctx Γ "SpiritWallModel" cX11_closedIf 3 (some .int) rmX11_closedIf) (hnt : NT Γ) (J : JT) (hJ : ∀ L a, Cor Γ 3 (lX11_closedIf L a).1 (lX11_closedIf L a).2.1 (lX11_closedIf L a).2.2.1 (lX11_closedIf L a).2.2.2.1 (lX11_closedIf L a).2.2.2.2 (J L a)) (a : List Value) : Cor Γ 3 0 0 0 (lv_args 0 a) [] (bX11_closedIf_0 J a) := by
  unfold bX11_closedIf_0
  split
  · rename_i x0 x1
    refine c_sub [0, 1] rfl (loc' := [(0, .ref x0), (1, .int x1)]) ?_
    refine q_aload_n hC 0 dX11_closedIf_0 rfl rfl ?_
    refine q_aload_n hC 0 dX11_closedIf_1 rfl rfl ?_
    refine q_iload_n hC 1 dX11_closedIf_2 rfl rfl ?_
    refine q_cVI hC hnt (stk := [.ref x0]) (as := [.int x1]) sX11_isSight (ci := 11) (by decide) rfl nX11_isSight rfl w_1081 w_1083 w_1084 w_830 w_1082 (Nat.le_of_ble_eq_true rfl) dX11_closedIf_3 rfl (fun v1 => ?_)
    refine q_cVI hC hnt (stk := []) (as := [.int v1]) sX11_is (ci := 11) (by decide) rfl nX11_is rfl w_838 w_840 w_841 w_830 w_839 (Nat.le_of_ble_eq_true rfl) dX11_closedIf_6 rfl (fun v2 => ?_)
    refine q_if_ne hC 14 dX11_closedIf_9 rfl ?_ ?_
    · refine q_aload_n hC 0 dX11_closedIf_14 rfl rfl ?_
      refine q_iload_n hC 1 dX11_closedIf_15 rfl rfl ?_
      refine q_cVV hC hnt (stk := []) (as := [.int x1]) sX11_turns (ci := 11) (by decide) rfl nX11_turns rfl w_1124 w_1126 w_1127 w_830 w_1125 (Nat.le_of_ble_eq_true rfl) dX11_closedIf_16 rfl ?_
      refine q_aload_n hC 0 dX11_closedIf_19 rfl rfl ?_
      refine q_cVI hC hnt (stk := []) (as := []) sX11_closing (ci := 11) (by decide) rfl nX11_closing rfl w_1044 w_1046 w_1047 w_830 w_1045 (Nat.le_of_ble_eq_true rfl) dX11_closedIf_20 rfl (fun v3 => ?_)
      refine q_istore_nA hC (loc' := [(2, .int v3), (0, .ref x0), (1, .int x1)]) dX11_closedIf_23 rfl (Nat.le_of_ble_eq_true rfl) rfl ?_
      refine q_aload_n hC 1 dX11_closedIf_24 rfl rfl ?_
      refine q_iload_n hC 2 dX11_closedIf_25 rfl rfl ?_
      refine q_cVV hC hnt (stk := []) (as := [.int x1]) sX11_turns (ci := 11) (by decide) rfl nX11_turns rfl w_1124 w_1126 w_1127 w_830 w_1125 (Nat.le_of_ble_eq_true rfl) dX11_closedIf_26 rfl ?_
      refine q_iload_n hC 0 dX11_closedIf_29 rfl rfl ?_
      exact q_iret hC dX11_closedIf_30 (Nat.le_of_ble_eq_true rfl) (Nat.le_of_ble_eq_true rfl)
    · refine q_iconst hC dX11_closedIf_12 rfl ?_
      exact q_iret hC dX11_closedIf_13 (Nat.le_of_ble_eq_true rfl) (Nat.le_of_ble_eq_true rfl)
  · exact c_no
theorem sX11_closedIf : Snd yX11_closedIf (.code yX11_closedIf cX11_closedIf 3 (some .int)) rmX11_closedIf SX11_closedIf := by
  refine Snd.of lX11_closedIf (by decide +kernel) (fun _ => rfl) ?_
  intro Γ hC hnt hnm J hJ L a
  match L with
  | 0 => exact pX11_closedIf_0 hC hnt J hJ a
  | L + 1 => exact c_no
/-! SpiritWallModel.bestStrike()I -/
theorem dX11_bestStrike_0 : decode cX11_bestStrike 0 = .ok (.aload_n 0, 1) := by decide +kernel
theorem dX11_bestStrike_1 : decode cX11_bestStrike 1 = .ok (.iconst 0, 1) := by decide +kernel
theorem dX11_bestStrike_2 : decode cX11_bestStrike 2 = .ok (.putfield 67, 3) := by decide +kernel
theorem dX11_bestStrike_5 : decode cX11_bestStrike 5 = .ok (.iconst (-1), 1) := by decide +kernel
theorem dX11_bestStrike_6 : decode cX11_bestStrike 6 = .ok (.istore_n 1, 1) := by decide +kernel
theorem dX11_bestStrike_7 : decode cX11_bestStrike 7 = .ok (.iconst 0, 1) := by decide +kernel
theorem dX11_bestStrike_8 : decode cX11_bestStrike 8 = .ok (.istore_n 2, 1) := by decide +kernel
theorem dX11_bestStrike_9 : decode cX11_bestStrike 9 = .ok (.iconst 0, 1) := by decide +kernel
theorem dX11_bestStrike_10 : decode cX11_bestStrike 10 = .ok (.istore_n 3, 1) := by decide +kernel
theorem dX11_bestStrike_11 : decode cX11_bestStrike 11 = .ok (.iload_n 3, 1) := by decide +kernel
theorem dX11_bestStrike_12 : decode cX11_bestStrike 12 = .ok (.aload_n 0, 1) := by decide +kernel
theorem dX11_bestStrike_13 : decode cX11_bestStrike 13 = .ok (.invokevirtual 97, 3) := by decide +kernel
theorem dX11_bestStrike_16 : decode cX11_bestStrike 16 = .ok (.if_icmp .ge 60, 3) := by decide +kernel
theorem dX11_bestStrike_19 : decode cX11_bestStrike 19 = .ok (.aload_n 0, 1) := by decide +kernel
theorem dX11_bestStrike_20 : decode cX11_bestStrike 20 = .ok (.iload_n 3, 1) := by decide +kernel
theorem dX11_bestStrike_21 : decode cX11_bestStrike 21 = .ok (.invokevirtual 141, 3) := by decide +kernel
theorem dX11_bestStrike_24 : decode cX11_bestStrike 24 = .ok (.ifCond .ne 6, 3) := by decide +kernel
theorem dX11_bestStrike_27 : decode cX11_bestStrike 27 = .ok (.goto 43, 3) := by decide +kernel
theorem dX11_bestStrike_30 : decode cX11_bestStrike 30 = .ok (.aload_n 0, 1) := by decide +kernel
theorem dX11_bestStrike_31 : decode cX11_bestStrike 31 = .ok (.iload_n 3, 1) := by decide +kernel
theorem dX11_bestStrike_32 : decode cX11_bestStrike 32 = .ok (.invokevirtual 334, 3) := by decide +kernel
theorem dX11_bestStrike_35 : decode cX11_bestStrike 35 = .ok (.aload_n 0, 1) := by decide +kernel
theorem dX11_bestStrike_36 : decode cX11_bestStrike 36 = .ok (.invokevirtual 235, 3) := by decide +kernel
theorem dX11_bestStrike_39 : decode cX11_bestStrike 39 = .ok (.aload_n 0, 1) := by decide +kernel
theorem dX11_bestStrike_40 : decode cX11_bestStrike 40 = .ok (.invokevirtual 266, 3) := by decide +kernel
theorem dX11_bestStrike_43 : decode cX11_bestStrike 43 = .ok (.isub, 1) := by decide +kernel
theorem dX11_bestStrike_44 : decode cX11_bestStrike 44 = .ok (.istore 4, 2) := by decide +kernel
theorem dX11_bestStrike_46 : decode cX11_bestStrike 46 = .ok (.aload_n 0, 1) := by decide +kernel
theorem dX11_bestStrike_47 : decode cX11_bestStrike 47 = .ok (.iload_n 3, 1) := by decide +kernel
theorem dX11_bestStrike_48 : decode cX11_bestStrike 48 = .ok (.invokevirtual 334, 3) := by decide +kernel
theorem dX11_bestStrike_51 : decode cX11_bestStrike 51 = .ok (.iload_n 1, 1) := by decide +kernel
theorem dX11_bestStrike_52 : decode cX11_bestStrike 52 = .ok (.iconst (-1), 1) := by decide +kernel
theorem dX11_bestStrike_53 : decode cX11_bestStrike 53 = .ok (.if_icmp .eq 12, 3) := by decide +kernel
theorem dX11_bestStrike_56 : decode cX11_bestStrike 56 = .ok (.iload 4, 2) := by decide +kernel
theorem dX11_bestStrike_58 : decode cX11_bestStrike 58 = .ok (.iload_n 2, 1) := by decide +kernel
theorem dX11_bestStrike_59 : decode cX11_bestStrike 59 = .ok (.if_icmp .lt 6, 3) := by decide +kernel
theorem dX11_bestStrike_62 : decode cX11_bestStrike 62 = .ok (.goto 8, 3) := by decide +kernel
theorem dX11_bestStrike_65 : decode cX11_bestStrike 65 = .ok (.iload_n 3, 1) := by decide +kernel
theorem dX11_bestStrike_66 : decode cX11_bestStrike 66 = .ok (.istore_n 1, 1) := by decide +kernel
theorem dX11_bestStrike_67 : decode cX11_bestStrike 67 = .ok (.iload 4, 2) := by decide +kernel
theorem dX11_bestStrike_69 : decode cX11_bestStrike 69 = .ok (.istore_n 2, 1) := by decide +kernel
theorem dX11_bestStrike_70 : decode cX11_bestStrike 70 = .ok (.iinc 3 1, 3) := by decide +kernel
theorem dX11_bestStrike_73 : decode cX11_bestStrike 73 = .ok (.goto (-62), 3) := by decide +kernel
theorem dX11_bestStrike_76 : decode cX11_bestStrike 76 = .ok (.iload_n 1, 1) := by decide +kernel
theorem dX11_bestStrike_77 : decode cX11_bestStrike 77 = .ok (.ireturn, 1) := by decide +kernel
def rmX11_bestStrike : Room := rmk 27 0 0 641
theorem nX11_bestStrike : nameOk yX11_bestStrike 0 = true := by decide +kernel
def bX11_bestStrike_0 (J : JT) : List Value → Sem
  | [.ref x0] =>
    pI 11 0 x0 0 <|
    J 1 [.ref x0, .int (-1), .int 0, .int 0]
  | _ => no
def bX11_bestStrike_1 (J : JT) : List Value → Sem
  | [.ref x0, .int x1, .int x2, .int x3] =>
    ob 11 x0 (cI SX11_sights [.ref x0] fun v1 =>
    br (v1 ≤ x3)
    (rI x1)
    (ob 11 x0 (cI SX11_counts [.ref x0, .int x3] fun v2 =>
    br (v2 = 0)
    (J 1 [.ref x0, .int x1, .int x2, .int (x3 + 1)])
    (ob 11 x0 (cV SX11_turns [.ref x0, .int x3] <|
    ob 11 x0 (cI SX11_loops [.ref x0] fun v3 =>
    ob 11 x0 (cI SX11_closing [.ref x0] fun v4 =>
    lI (v3 - v4) fun y4_5 =>
    ob 11 x0 (cV SX11_turns [.ref x0, .int x3] <|
    br (x1 = ((-1) : Int32))
    (J 1 [.ref x0, .int x3, .int y4_5, .int (x3 + 1)])
    (br (y4_5 < x2)
    (J 1 [.ref x0, .int x3, .int y4_5, .int (x3 + 1)])
    (J 1 [.ref x0, .int x1, .int x2, .int (x3 + 1)]))))))))))
  | _ => no
def bX11_bestStrike (J : JT) : JT := fun L a => match L with
  | 0 => bX11_bestStrike_0 J a
  | 1 => bX11_bestStrike_1 J a
  | _ => no
def SX11_bestStrike : ST := mk 5 bX11_bestStrike
def lX11_bestStrike (L : Nat) (a : List Value) : Nat × Nat × Nat × List (Nat × Value) × List Value := match L with
  | 0 => (0, 0, 0, lv_args 0 a, [])
  | 1 => (0, 0, 11, List.zip [0, 1, 2, 3] a, [])
  | _ => (0, 0, 0, [], [])
theorem pX11_bestStrike_0 {Γ : CT} (hC : Ctx Γ "SpiritWallModel" cX11_bestStrike 5 (some .int) rmX11_bestStrike) (hnt : NT Γ) (J : JT) (hJ : ∀ L a, Cor Γ 5 (lX11_bestStrike L a).1 (lX11_bestStrike L a).2.1 (lX11_bestStrike L a).2.2.1 (lX11_bestStrike L a).2.2.2.1 (lX11_bestStrike L a).2.2.2.2 (J L a)) (a : List Value) : Cor Γ 5 0 0 0 (lv_args 0 a) [] (bX11_bestStrike_0 J a) := by
  unfold bX11_bestStrike_0
  split
  · rename_i x0
    refine c_sub [0] rfl (loc' := [(0, .ref x0)]) ?_
    refine q_aload_n hC 0 dX11_bestStrike_0 rfl rfl ?_
    refine q_iconst hC dX11_bestStrike_1 rfl ?_
    refine q_putI hC (by decide) (by decide) rfl rfl w_833 dX11_bestStrike_2 ?_
    refine q_iconst hC dX11_bestStrike_5 rfl ?_
    refine q_istore_nA hC (loc' := [(1, .int (-1)), (0, .ref x0)]) dX11_bestStrike_6 rfl (Nat.le_of_ble_eq_true rfl) rfl ?_
    refine q_iconst hC dX11_bestStrike_7 rfl ?_
    refine q_istore_nA hC (loc' := [(2, .int 0), (1, .int (-1)), (0, .ref x0)]) dX11_bestStrike_8 rfl (Nat.le_of_ble_eq_true rfl) rfl ?_
    refine q_iconst hC dX11_bestStrike_9 rfl ?_
    refine q_istore_nA hC (loc' := [(3, .int 0), (2, .int 0), (1, .int (-1)), (0, .ref x0)]) dX11_bestStrike_10 rfl (Nat.le_of_ble_eq_true rfl) rfl ?_
    exact c_sub [3, 2, 1, 0] rfl (hJ 1 [.ref x0, .int (-1), .int 0, .int 0])
  · exact c_no
theorem pX11_bestStrike_1 {Γ : CT} (hC : Ctx Γ "SpiritWallModel" cX11_bestStrike 5 (some .int) rmX11_bestStrike) (hnt : NT Γ) (J : JT) (hJ : ∀ L a, Cor Γ 5 (lX11_bestStrike L a).1 (lX11_bestStrike L a).2.1 (lX11_bestStrike L a).2.2.1 (lX11_bestStrike L a).2.2.2.1 (lX11_bestStrike L a).2.2.2.2 (J L a)) (a : List Value) : Cor Γ 5 0 0 11 (List.zip [0, 1, 2, 3] a) [] (bX11_bestStrike_1 J a) := by
  unfold bX11_bestStrike_1
  split
  · rename_i x0 x1 x2 x3
    refine c_sub [0, 1, 2, 3] rfl (loc' := [(0, .ref x0), (1, .int x1), (2, .int x2), (3, .int x3)]) ?_
    refine q_iload_n hC 3 dX11_bestStrike_11 rfl rfl ?_
    refine q_aload_n hC 0 dX11_bestStrike_12 rfl rfl ?_
    refine q_cVI hC hnt (stk := [.int x3]) (as := []) sX11_sights (ci := 11) (by decide) rfl nX11_sights rfl w_854 w_856 w_857 w_830 w_855 (Nat.le_of_ble_eq_true rfl) dX11_bestStrike_13 rfl (fun v1 => ?_)
    refine q_ic_ge hC 76 dX11_bestStrike_16 rfl ?_ ?_
    · refine q_iload_n hC 1 dX11_bestStrike_76 rfl rfl ?_
      exact q_iret hC dX11_bestStrike_77 (Nat.le_of_ble_eq_true rfl) (Nat.le_of_ble_eq_true rfl)
    · refine q_aload_n hC 0 dX11_bestStrike_19 rfl rfl ?_
      refine q_iload_n hC 3 dX11_bestStrike_20 rfl rfl ?_
      refine q_cVI hC hnt (stk := []) (as := [.int x3]) sX11_counts (ci := 11) (by decide) rfl nX11_counts rfl w_895 w_897 w_898 w_830 w_896 (Nat.le_of_ble_eq_true rfl) dX11_bestStrike_21 rfl (fun v2 => ?_)
      refine q_if_ne hC 30 dX11_bestStrike_24 rfl ?_ ?_
      · refine q_aload_n hC 0 dX11_bestStrike_30 rfl rfl ?_
        refine q_iload_n hC 3 dX11_bestStrike_31 rfl rfl ?_
        refine q_cVV hC hnt (stk := []) (as := [.int x3]) sX11_turns (ci := 11) (by decide) rfl nX11_turns rfl w_1124 w_1126 w_1127 w_830 w_1125 (Nat.le_of_ble_eq_true rfl) dX11_bestStrike_32 rfl ?_
        refine q_aload_n hC 0 dX11_bestStrike_35 rfl rfl ?_
        refine q_cVI hC hnt (stk := []) (as := []) sX11_loops (ci := 11) (by decide) rfl nX11_loops rfl w_1004 w_1006 w_1007 w_830 w_1005 (Nat.le_of_ble_eq_true rfl) dX11_bestStrike_36 rfl (fun v3 => ?_)
        refine q_aload_n hC 0 dX11_bestStrike_39 rfl rfl ?_
        refine q_cVI hC hnt (stk := [.int v3]) (as := []) sX11_closing (ci := 11) (by decide) rfl nX11_closing rfl w_1044 w_1046 w_1047 w_830 w_1045 (Nat.le_of_ble_eq_true rfl) dX11_bestStrike_40 rfl (fun v4 => ?_)
        refine q_isub hC dX11_bestStrike_43 ?_
        refine q_istore hC (fun y4_5 => [(4, .int y4_5), (0, .ref x0), (1, .int x1), (2, .int x2), (3, .int x3)]) dX11_bestStrike_44 (Nat.le_of_ble_eq_true rfl) (fun _ => rfl) (fun y4_5 => ?_)
        refine q_aload_n hC 1 dX11_bestStrike_46 rfl rfl ?_
        refine q_iload_n hC 4 dX11_bestStrike_47 rfl rfl ?_
        refine q_cVV hC hnt (stk := []) (as := [.int x3]) sX11_turns (ci := 11) (by decide) rfl nX11_turns rfl w_1124 w_1126 w_1127 w_830 w_1125 (Nat.le_of_ble_eq_true rfl) dX11_bestStrike_48 rfl ?_
        refine q_iload_n hC 2 dX11_bestStrike_51 rfl rfl ?_
        refine q_iconst hC dX11_bestStrike_52 rfl ?_
        refine q_ic_eq hC 65 dX11_bestStrike_53 rfl ?_ ?_
        · refine q_iload_n hC 4 dX11_bestStrike_65 rfl rfl ?_
          refine q_istore_nA hC (loc' := [(1, .int x3), (4, .int y4_5), (0, .ref x0), (2, .int x2), (3, .int x3)]) dX11_bestStrike_66 rfl (Nat.le_of_ble_eq_true rfl) rfl ?_
          refine q_iload hC 1 dX11_bestStrike_67 rfl ?_
          refine q_istore_nA hC (loc' := [(2, .int y4_5), (1, .int x3), (4, .int y4_5), (0, .ref x0), (3, .int x3)]) dX11_bestStrike_69 rfl (Nat.le_of_ble_eq_true rfl) rfl ?_
          refine q_iincA hC (loc' := [(3, .int (x3 + 1)), (2, .int y4_5), (1, .int x3), (4, .int y4_5), (0, .ref x0)]) 4 1 dX11_bestStrike_70 rfl rfl (Nat.le_of_ble_eq_true rfl) rfl ?_
          refine q_goto hC 11 dX11_bestStrike_73 rfl ?_
          exact c_sub [4, 2, 1, 0] rfl (hJ 1 [.ref x0, .int x3, .int y4_5, .int (x3 + 1)])
        · refine q_iload hC 0 dX11_bestStrike_56 rfl ?_
          refine q_iload_n hC 3 dX11_bestStrike_58 rfl rfl ?_
          refine q_ic_lt hC 65 dX11_bestStrike_59 rfl ?_ ?_
          · refine q_iload_n hC 4 dX11_bestStrike_65 rfl rfl ?_
            refine q_istore_nA hC (loc' := [(1, .int x3), (4, .int y4_5), (0, .ref x0), (2, .int x2), (3, .int x3)]) dX11_bestStrike_66 rfl (Nat.le_of_ble_eq_true rfl) rfl ?_
            refine q_iload hC 1 dX11_bestStrike_67 rfl ?_
            refine q_istore_nA hC (loc' := [(2, .int y4_5), (1, .int x3), (4, .int y4_5), (0, .ref x0), (3, .int x3)]) dX11_bestStrike_69 rfl (Nat.le_of_ble_eq_true rfl) rfl ?_
            refine q_iincA hC (loc' := [(3, .int (x3 + 1)), (2, .int y4_5), (1, .int x3), (4, .int y4_5), (0, .ref x0)]) 4 1 dX11_bestStrike_70 rfl rfl (Nat.le_of_ble_eq_true rfl) rfl ?_
            refine q_goto hC 11 dX11_bestStrike_73 rfl ?_
            exact c_sub [4, 2, 1, 0] rfl (hJ 1 [.ref x0, .int x3, .int y4_5, .int (x3 + 1)])
          · refine q_goto hC 70 dX11_bestStrike_62 rfl ?_
            refine q_iincA hC (loc' := [(3, .int (x3 + 1)), (4, .int y4_5), (0, .ref x0), (1, .int x1), (2, .int x2)]) 4 1 dX11_bestStrike_70 rfl rfl (Nat.le_of_ble_eq_true rfl) rfl ?_
            refine q_goto hC 11 dX11_bestStrike_73 rfl ?_
            exact c_sub [2, 3, 4, 0] rfl (hJ 1 [.ref x0, .int x1, .int x2, .int (x3 + 1)])
      · refine q_goto hC 70 dX11_bestStrike_27 rfl ?_
        refine q_iincA hC (loc' := [(3, .int (x3 + 1)), (0, .ref x0), (1, .int x1), (2, .int x2)]) 3 1 dX11_bestStrike_70 rfl rfl (Nat.le_of_ble_eq_true rfl) rfl ?_
        refine q_goto hC 11 dX11_bestStrike_73 rfl ?_
        exact c_sub [1, 2, 3, 0] rfl (hJ 1 [.ref x0, .int x1, .int x2, .int (x3 + 1)])
  · exact c_no
theorem sX11_bestStrike : Snd yX11_bestStrike (.code yX11_bestStrike cX11_bestStrike 5 (some .int)) rmX11_bestStrike SX11_bestStrike := by
  refine Snd.of lX11_bestStrike (by decide +kernel) (fun _ => rfl) ?_
  intro Γ hC hnt hnm J hJ L a
  match L with
  | 0 => exact pX11_bestStrike_0 hC hnt J hJ a
  | 1 => exact pX11_bestStrike_1 hC hnt J hJ a
  | L + 2 => exact c_no
/-! SpiritWallModel.errorWith(I)I -/
theorem dX11_errorWith_0 : decode cX11_errorWith 0 = .ok (.aload_n 0, 1) := by decide +kernel
theorem dX11_errorWith_1 : decode cX11_errorWith 1 = .ok (.iload_n 1, 1) := by decide +kernel
theorem dX11_errorWith_2 : decode cX11_errorWith 2 = .ok (.i2l, 1) := by decide +kernel
theorem dX11_errorWith_3 : decode cX11_errorWith 3 = .ok (.lconst 1, 1) := by decide +kernel
theorem dX11_errorWith_4 : decode cX11_errorWith 4 = .ok (.ldc2_w 337, 3) := by decide +kernel
theorem dX11_errorWith_7 : decode cX11_errorWith 7 = .ok (.invokestatic 89, 3) := by decide +kernel
theorem dX11_errorWith_10 : decode cX11_errorWith 10 = .ok (.invokevirtual 77, 3) := by decide +kernel
theorem dX11_errorWith_13 : decode cX11_errorWith 13 = .ok (.ifCond .ne 5, 3) := by decide +kernel
theorem dX11_errorWith_16 : decode cX11_errorWith 16 = .ok (.iconst 0, 1) := by decide +kernel
theorem dX11_errorWith_17 : decode cX11_errorWith 17 = .ok (.ireturn, 1) := by decide +kernel
theorem dX11_errorWith_18 : decode cX11_errorWith 18 = .ok (.aload_n 0, 1) := by decide +kernel
theorem dX11_errorWith_19 : decode cX11_errorWith 19 = .ok (.getfield 7, 3) := by decide +kernel
theorem dX11_errorWith_22 : decode cX11_errorWith 22 = .ok (.iconst 2, 1) := by decide +kernel
theorem dX11_errorWith_23 : decode cX11_errorWith 23 = .ok (.iaload, 1) := by decide +kernel
theorem dX11_errorWith_24 : decode cX11_errorWith 24 = .ok (.istore_n 2, 1) := by decide +kernel
theorem dX11_errorWith_25 : decode cX11_errorWith 25 = .ok (.aload_n 0, 1) := by decide +kernel
theorem dX11_errorWith_26 : decode cX11_errorWith 26 = .ok (.getfield 7, 3) := by decide +kernel
theorem dX11_errorWith_29 : decode cX11_errorWith 29 = .ok (.iconst 2, 1) := by decide +kernel
theorem dX11_errorWith_30 : decode cX11_errorWith 30 = .ok (.iload_n 1, 1) := by decide +kernel
theorem dX11_errorWith_31 : decode cX11_errorWith 31 = .ok (.iastore, 1) := by decide +kernel
theorem dX11_errorWith_32 : decode cX11_errorWith 32 = .ok (.aload_n 0, 1) := by decide +kernel
theorem dX11_errorWith_33 : decode cX11_errorWith 33 = .ok (.invokevirtual 158, 3) := by decide +kernel
theorem dX11_errorWith_36 : decode cX11_errorWith 36 = .ok (.istore_n 3, 1) := by decide +kernel
theorem dX11_errorWith_37 : decode cX11_errorWith 37 = .ok (.aload_n 0, 1) := by decide +kernel
theorem dX11_errorWith_38 : decode cX11_errorWith 38 = .ok (.getfield 7, 3) := by decide +kernel
theorem dX11_errorWith_41 : decode cX11_errorWith 41 = .ok (.iconst 2, 1) := by decide +kernel
theorem dX11_errorWith_42 : decode cX11_errorWith 42 = .ok (.iload_n 2, 1) := by decide +kernel
theorem dX11_errorWith_43 : decode cX11_errorWith 43 = .ok (.iastore, 1) := by decide +kernel
theorem dX11_errorWith_44 : decode cX11_errorWith 44 = .ok (.iload_n 3, 1) := by decide +kernel
theorem dX11_errorWith_45 : decode cX11_errorWith 45 = .ok (.ireturn, 1) := by decide +kernel
def rmX11_errorWith : Room := rmk 12 0 0 293
theorem nX11_errorWith : nameOk yX11_errorWith 1 = true := by decide +kernel
def bX11_errorWith_0 (J : JT) : List Value → Sem
  | [.ref x0, .int x1] =>
    cI SX11_isIn [.long (x1.toInt64), .long 1, .long 9999] fun v1 =>
    ob 11 x0 (cI SX11_is [.ref x0, .int v1] fun v2 =>
    br (v2 = 0)
    (rI 0)
    (gR 11 1 x0 fun r3 =>
    aI r3 2 fun v4 =>
    gR 11 1 x0 fun r5 =>
    sA r5 2 x1 <|
    ob 11 x0 (cI SX11_foundError [.ref x0] fun v6 =>
    gR 11 1 x0 fun r7 =>
    sA r7 2 v4 <|
    rI v6)))
  | _ => no
def bX11_errorWith (J : JT) : JT := fun L a => match L with
  | 0 => bX11_errorWith_0 J a
  | _ => no
def SX11_errorWith : ST := mk 4 bX11_errorWith
def lX11_errorWith (L : Nat) (a : List Value) : Nat × Nat × Nat × List (Nat × Value) × List Value := match L with
  | 0 => (0, 0, 0, lv_args 0 a, [])
  | _ => (0, 0, 0, [], [])
theorem pX11_errorWith_0 {Γ : CT} (hC : Ctx Γ "SpiritWallModel" cX11_errorWith 4 (some .int) rmX11_errorWith) (hnt : NT Γ) (J : JT) (hJ : ∀ L a, Cor Γ 4 (lX11_errorWith L a).1 (lX11_errorWith L a).2.1 (lX11_errorWith L a).2.2.1 (lX11_errorWith L a).2.2.2.1 (lX11_errorWith L a).2.2.2.2 (J L a)) (a : List Value) : Cor Γ 4 0 0 0 (lv_args 0 a) [] (bX11_errorWith_0 J a) := by
  unfold bX11_errorWith_0
  split
  · rename_i x0 x1
    refine c_sub [0, 1] rfl (loc' := [(0, .ref x0), (1, .int x1)]) ?_
    refine q_aload_n hC 0 dX11_errorWith_0 rfl rfl ?_
    refine q_iload_n hC 1 dX11_errorWith_1 rfl rfl ?_
    refine q_i2l hC dX11_errorWith_2 ?_
    refine q_lconst hC (v := 1) dX11_errorWith_3 rfl ?_
    refine q_ldc2 hC w_1128 dX11_errorWith_4 ?_
    refine q_cSI hC hnt (stk := [.ref x0]) (as := [.long (x1.toInt64), .long 1, .long 9999]) sX11_isIn nX11_isIn rfl w_847 w_849 w_830 w_848 (Nat.le_of_ble_eq_true rfl) dX11_errorWith_7 rfl (fun v1 => ?_)
    refine q_cVI hC hnt (stk := []) (as := [.int v1]) sX11_is (ci := 11) (by decide) rfl nX11_is rfl w_838 w_840 w_841 w_830 w_839 (Nat.le_of_ble_eq_true rfl) dX11_errorWith_10 rfl (fun v2 => ?_)
    refine q_if_ne hC 18 dX11_errorWith_13 rfl ?_ ?_
    · refine q_aload_n hC 0 dX11_errorWith_18 rfl rfl ?_
      refine q_getR hC (by decide) (by decide) rfl w_808 dX11_errorWith_19 (fun r3 => ?_)
      refine q_iconst hC dX11_errorWith_22 rfl ?_
      refine q_iald hC dX11_errorWith_23 (fun v4 => ?_)
      refine q_istore_nA hC (loc' := [(2, .int v4), (0, .ref x0), (1, .int x1)]) dX11_errorWith_24 rfl (Nat.le_of_ble_eq_true rfl) rfl ?_
      refine q_aload_n hC 1 dX11_errorWith_25 rfl rfl ?_
      refine q_getR hC (by decide) (by decide) rfl w_808 dX11_errorWith_26 (fun r5 => ?_)
      refine q_iconst hC dX11_errorWith_29 rfl ?_
      refine q_iload_n hC 2 dX11_errorWith_30 rfl rfl ?_
      refine q_iast hC dX11_errorWith_31 ?_
      refine q_aload_n hC 1 dX11_errorWith_32 rfl rfl ?_
      refine q_cVI hC hnt (stk := []) (as := []) sX11_foundError (ci := 11) (by decide) rfl nX11_foundError rfl w_915 w_917 w_918 w_830 w_916 (Nat.le_of_ble_eq_true rfl) dX11_errorWith_33 rfl (fun v6 => ?_)
      refine q_istore_nA hC (loc' := [(3, .int v6), (2, .int v4), (0, .ref x0), (1, .int x1)]) dX11_errorWith_36 rfl (Nat.le_of_ble_eq_true rfl) rfl ?_
      refine q_aload_n hC 2 dX11_errorWith_37 rfl rfl ?_
      refine q_getR hC (by decide) (by decide) rfl w_808 dX11_errorWith_38 (fun r7 => ?_)
      refine q_iconst hC dX11_errorWith_41 rfl ?_
      refine q_iload_n hC 1 dX11_errorWith_42 rfl rfl ?_
      refine q_iast hC dX11_errorWith_43 ?_
      refine q_iload_n hC 0 dX11_errorWith_44 rfl rfl ?_
      exact q_iret hC dX11_errorWith_45 (Nat.le_of_ble_eq_true rfl) (Nat.le_of_ble_eq_true rfl)
    · refine q_iconst hC dX11_errorWith_16 rfl ?_
      exact q_iret hC dX11_errorWith_17 (Nat.le_of_ble_eq_true rfl) (Nat.le_of_ble_eq_true rfl)
  · exact c_no
theorem sX11_errorWith : Snd yX11_errorWith (.code yX11_errorWith cX11_errorWith 4 (some .int)) rmX11_errorWith SX11_errorWith := by
  refine Snd.of lX11_errorWith (by decide +kernel) (fun _ => rfl) ?_
  intro Γ hC hnt hnm J hJ L a
  match L with
  | 0 => exact pX11_errorWith_0 hC hnt J hJ a
  | L + 1 => exact c_no
/-! SpiritWallModel.misfitAfter(I)J -/
theorem dX11_misfitAfter_0 : decode cX11_misfitAfter 0 = .ok (.aload_n 0, 1) := by decide +kernel
theorem dX11_misfitAfter_1 : decode cX11_misfitAfter 1 = .ok (.iload_n 1, 1) := by decide +kernel
theorem dX11_misfitAfter_2 : decode cX11_misfitAfter 2 = .ok (.i2l, 1) := by decide +kernel
theorem dX11_misfitAfter_3 : decode cX11_misfitAfter 3 = .ok (.lconst 0, 1) := by decide +kernel
theorem dX11_misfitAfter_4 : decode cX11_misfitAfter 4 = .ok (.ldc2_w 339, 3) := by decide +kernel
theorem dX11_misfitAfter_7 : decode cX11_misfitAfter 7 = .ok (.invokestatic 89, 3) := by decide +kernel
theorem dX11_misfitAfter_10 : decode cX11_misfitAfter 10 = .ok (.invokevirtual 77, 3) := by decide +kernel
theorem dX11_misfitAfter_13 : decode cX11_misfitAfter 13 = .ok (.ifCond .ne 5, 3) := by decide +kernel
theorem dX11_misfitAfter_16 : decode cX11_misfitAfter 16 = .ok (.lconst 0, 1) := by decide +kernel
theorem dX11_misfitAfter_17 : decode cX11_misfitAfter 17 = .ok (.lreturn, 1) := by decide +kernel
theorem dX11_misfitAfter_18 : decode cX11_misfitAfter 18 = .ok (.aload_n 0, 1) := by decide +kernel
theorem dX11_misfitAfter_19 : decode cX11_misfitAfter 19 = .ok (.invokevirtual 341, 3) := by decide +kernel
theorem dX11_misfitAfter_22 : decode cX11_misfitAfter 22 = .ok (.aload_n 0, 1) := by decide +kernel
theorem dX11_misfitAfter_23 : decode cX11_misfitAfter 23 = .ok (.invokevirtual 344, 3) := by decide +kernel
theorem dX11_misfitAfter_26 : decode cX11_misfitAfter 26 = .ok (.aload_n 0, 1) := by decide +kernel
theorem dX11_misfitAfter_27 : decode cX11_misfitAfter 27 = .ok (.iload_n 1, 1) := by decide +kernel
theorem dX11_misfitAfter_28 : decode cX11_misfitAfter 28 = .ok (.invokevirtual 347, 3) := by decide +kernel
theorem dX11_misfitAfter_31 : decode cX11_misfitAfter 31 = .ok (.istore_n 2, 1) := by decide +kernel
theorem dX11_misfitAfter_32 : decode cX11_misfitAfter 32 = .ok (.aload_n 0, 1) := by decide +kernel
theorem dX11_misfitAfter_33 : decode cX11_misfitAfter 33 = .ok (.invokevirtual 321, 3) := by decide +kernel
theorem dX11_misfitAfter_36 : decode cX11_misfitAfter 36 = .ok (.lstore_n 3, 1) := by decide +kernel
theorem dX11_misfitAfter_37 : decode cX11_misfitAfter 37 = .ok (.aload_n 0, 1) := by decide +kernel
theorem dX11_misfitAfter_38 : decode cX11_misfitAfter 38 = .ok (.invokevirtual 350, 3) := by decide +kernel
theorem dX11_misfitAfter_41 : decode cX11_misfitAfter 41 = .ok (.lload_n 3, 1) := by decide +kernel
theorem dX11_misfitAfter_42 : decode cX11_misfitAfter 42 = .ok (.lreturn, 1) := by decide +kernel
def rmX11_misfitAfter : Room := rmk 16 0 0 383
theorem nX11_misfitAfter : nameOk yX11_misfitAfter 1 = true := by decide +kernel
def bX11_misfitAfter_0 (J : JT) : List Value → Sem
  | [.ref x0, .int x1] =>
    cI SX11_isIn [.long (x1.toInt64), .long 0, .long 50] fun v1 =>
    ob 11 x0 (cI SX11_is [.ref x0, .int v1] fun v2 =>
    br (v2 = 0)
    (rJ 0)
    (ob 11 x0 (cV SX11_tries [.ref x0] <|
    ob 11 x0 (cV SX11_levels [.ref x0] <|
    ob 11 x0 (cI SX11_rounds [.ref x0, .int x1] fun v3 =>
    ob 11 x0 (cJ SX11_misfitNow [.ref x0] fun v4 =>
    ob 11 x0 (cV SX11_laysBack [.ref x0] <|
    rJ v4)))))))
  | _ => no
def bX11_misfitAfter (J : JT) : JT := fun L a => match L with
  | 0 => bX11_misfitAfter_0 J a
  | _ => no
def SX11_misfitAfter : ST := mk 5 bX11_misfitAfter
def lX11_misfitAfter (L : Nat) (a : List Value) : Nat × Nat × Nat × List (Nat × Value) × List Value := match L with
  | 0 => (0, 0, 0, lv_args 0 a, [])
  | _ => (0, 0, 0, [], [])
theorem pX11_misfitAfter_0 {Γ : CT} (hC : Ctx Γ "SpiritWallModel" cX11_misfitAfter 5 (some .long) rmX11_misfitAfter) (hnt : NT Γ) (J : JT) (hJ : ∀ L a, Cor Γ 5 (lX11_misfitAfter L a).1 (lX11_misfitAfter L a).2.1 (lX11_misfitAfter L a).2.2.1 (lX11_misfitAfter L a).2.2.2.1 (lX11_misfitAfter L a).2.2.2.2 (J L a)) (a : List Value) : Cor Γ 5 0 0 0 (lv_args 0 a) [] (bX11_misfitAfter_0 J a) := by
  unfold bX11_misfitAfter_0
  split
  · rename_i x0 x1
    refine c_sub [0, 1] rfl (loc' := [(0, .ref x0), (1, .int x1)]) ?_
    refine q_aload_n hC 0 dX11_misfitAfter_0 rfl rfl ?_
    refine q_iload_n hC 1 dX11_misfitAfter_1 rfl rfl ?_
    refine q_i2l hC dX11_misfitAfter_2 ?_
    refine q_lconst hC (v := 0) dX11_misfitAfter_3 rfl ?_
    refine q_ldc2 hC w_1129 dX11_misfitAfter_4 ?_
    refine q_cSI hC hnt (stk := [.ref x0]) (as := [.long (x1.toInt64), .long 0, .long 50]) sX11_isIn nX11_isIn rfl w_847 w_849 w_830 w_848 (Nat.le_of_ble_eq_true rfl) dX11_misfitAfter_7 rfl (fun v1 => ?_)
    refine q_cVI hC hnt (stk := []) (as := [.int v1]) sX11_is (ci := 11) (by decide) rfl nX11_is rfl w_838 w_840 w_841 w_830 w_839 (Nat.le_of_ble_eq_true rfl) dX11_misfitAfter_10 rfl (fun v2 => ?_)
    refine q_if_ne hC 18 dX11_misfitAfter_13 rfl ?_ ?_
    · refine q_aload_n hC 0 dX11_misfitAfter_18 rfl rfl ?_
      refine q_cVV hC hnt (stk := []) (as := []) sX11_tries (ci := 11) (by decide) rfl nX11_tries rfl w_1130 w_1132 w_1133 w_830 w_1131 (Nat.le_of_ble_eq_true rfl) dX11_misfitAfter_19 rfl ?_
      refine q_aload_n hC 0 dX11_misfitAfter_22 rfl rfl ?_
      refine q_cVV hC hnt (stk := []) (as := []) sX11_levels (ci := 11) (by decide) rfl nX11_levels rfl w_1134 w_1136 w_1137 w_830 w_1135 (Nat.le_of_ble_eq_true rfl) dX11_misfitAfter_23 rfl ?_
      refine q_aload_n hC 0 dX11_misfitAfter_26 rfl rfl ?_
      refine q_iload_n hC 1 dX11_misfitAfter_27 rfl rfl ?_
      refine q_cVI hC hnt (stk := []) (as := [.int x1]) sX11_rounds (ci := 11) (by decide) rfl nX11_rounds rfl w_1138 w_1140 w_1141 w_830 w_1139 (Nat.le_of_ble_eq_true rfl) dX11_misfitAfter_28 rfl (fun v3 => ?_)
      refine q_istore_nA hC (loc' := [(2, .int v3), (0, .ref x0), (1, .int x1)]) dX11_misfitAfter_31 rfl (Nat.le_of_ble_eq_true rfl) rfl ?_
      refine q_aload_n hC 1 dX11_misfitAfter_32 rfl rfl ?_
      refine q_cVJ hC hnt (stk := []) (as := []) sX11_misfitNow (ci := 11) (by decide) rfl nX11_misfitNow rfl w_1108 w_1110 w_1111 w_830 w_1109 (Nat.le_of_ble_eq_true rfl) dX11_misfitAfter_33 rfl (fun v4 => ?_)
      refine q_lstore_nA hC (loc' := [(3, .long v4), (2, .int v3), (0, .ref x0), (1, .int x1)]) dX11_misfitAfter_36 rfl (Nat.le_of_ble_eq_true rfl) rfl ?_
      refine q_aload_n hC 2 dX11_misfitAfter_37 rfl rfl ?_
      refine q_cVV hC hnt (stk := []) (as := []) sX11_laysBack (ci := 11) (by decide) rfl nX11_laysBack rfl w_1142 w_1144 w_1145 w_830 w_1143 (Nat.le_of_ble_eq_true rfl) dX11_misfitAfter_38 rfl ?_
      refine q_lload_n hC 0 dX11_misfitAfter_41 rfl rfl ?_
      exact q_lret hC dX11_misfitAfter_42 (Nat.le_of_ble_eq_true rfl) (Nat.le_of_ble_eq_true rfl)
    · refine q_lconst hC (v := 0) dX11_misfitAfter_16 rfl ?_
      exact q_lret hC dX11_misfitAfter_17 (Nat.le_of_ble_eq_true rfl) (Nat.le_of_ble_eq_true rfl)
  · exact c_no
theorem sX11_misfitAfter : Snd yX11_misfitAfter (.code yX11_misfitAfter cX11_misfitAfter 5 (some .long)) rmX11_misfitAfter SX11_misfitAfter := by
  refine Snd.of lX11_misfitAfter (by decide +kernel) (fun _ => rfl) ?_
  intro Γ hC hnt hnm J hJ L a
  match L with
  | 0 => exact pX11_misfitAfter_0 hC hnt J hJ a
  | L + 1 => exact c_no
/-! SpiritWallModel.heightIf(I)I -/
theorem dX11_heightIf_0 : decode cX11_heightIf 0 = .ok (.aload_n 0, 1) := by decide +kernel
theorem dX11_heightIf_1 : decode cX11_heightIf 1 = .ok (.aload_n 0, 1) := by decide +kernel
theorem dX11_heightIf_2 : decode cX11_heightIf 2 = .ok (.iload_n 1, 1) := by decide +kernel
theorem dX11_heightIf_3 : decode cX11_heightIf 3 = .ok (.invokevirtual 93, 3) := by decide +kernel
theorem dX11_heightIf_6 : decode cX11_heightIf 6 = .ok (.invokevirtual 77, 3) := by decide +kernel
theorem dX11_heightIf_9 : decode cX11_heightIf 9 = .ok (.ifCond .ne 5, 3) := by decide +kernel
theorem dX11_heightIf_12 : decode cX11_heightIf 12 = .ok (.iconst 0, 1) := by decide +kernel
theorem dX11_heightIf_13 : decode cX11_heightIf 13 = .ok (.ireturn, 1) := by decide +kernel
theorem dX11_heightIf_14 : decode cX11_heightIf 14 = .ok (.aload_n 0, 1) := by decide +kernel
theorem dX11_heightIf_15 : decode cX11_heightIf 15 = .ok (.invokevirtual 341, 3) := by decide +kernel
theorem dX11_heightIf_18 : decode cX11_heightIf 18 = .ok (.aload_n 0, 1) := by decide +kernel
theorem dX11_heightIf_19 : decode cX11_heightIf 19 = .ok (.invokevirtual 344, 3) := by decide +kernel
theorem dX11_heightIf_22 : decode cX11_heightIf 22 = .ok (.aload_n 0, 1) := by decide +kernel
theorem dX11_heightIf_23 : decode cX11_heightIf 23 = .ok (.iload_n 1, 1) := by decide +kernel
theorem dX11_heightIf_24 : decode cX11_heightIf 24 = .ok (.invokevirtual 293, 3) := by decide +kernel
theorem dX11_heightIf_27 : decode cX11_heightIf 27 = .ok (.istore_n 2, 1) := by decide +kernel
theorem dX11_heightIf_28 : decode cX11_heightIf 28 = .ok (.aload_n 0, 1) := by decide +kernel
theorem dX11_heightIf_29 : decode cX11_heightIf 29 = .ok (.invokevirtual 350, 3) := by decide +kernel
theorem dX11_heightIf_32 : decode cX11_heightIf 32 = .ok (.iload_n 2, 1) := by decide +kernel
theorem dX11_heightIf_33 : decode cX11_heightIf 33 = .ok (.ireturn, 1) := by decide +kernel
def rmX11_heightIf : Room := rmk 16 0 0 380
theorem nX11_heightIf : nameOk yX11_heightIf 1 = true := by decide +kernel
def bX11_heightIf_0 (J : JT) : List Value → Sem
  | [.ref x0, .int x1] =>
    ob 11 x0 (cI SX11_isMark [.ref x0, .int x1] fun v1 =>
    ob 11 x0 (cI SX11_is [.ref x0, .int v1] fun v2 =>
    br (v2 = 0)
    (rI 0)
    (ob 11 x0 (cV SX11_tries [.ref x0] <|
    ob 11 x0 (cV SX11_levels [.ref x0] <|
    ob 11 x0 (cI SX11_heightOf [.ref x0, .int x1] fun v3 =>
    ob 11 x0 (cV SX11_laysBack [.ref x0] <|
    rI v3)))))))
  | _ => no
def bX11_heightIf (J : JT) : JT := fun L a => match L with
  | 0 => bX11_heightIf_0 J a
  | _ => no
def SX11_heightIf : ST := mk 3 bX11_heightIf
def lX11_heightIf (L : Nat) (a : List Value) : Nat × Nat × Nat × List (Nat × Value) × List Value := match L with
  | 0 => (0, 0, 0, lv_args 0 a, [])
  | _ => (0, 0, 0, [], [])
theorem pX11_heightIf_0 {Γ : CT} (hC : Ctx Γ "SpiritWallModel" cX11_heightIf 3 (some .int) rmX11_heightIf) (hnt : NT Γ) (J : JT) (hJ : ∀ L a, Cor Γ 3 (lX11_heightIf L a).1 (lX11_heightIf L a).2.1 (lX11_heightIf L a).2.2.1 (lX11_heightIf L a).2.2.2.1 (lX11_heightIf L a).2.2.2.2 (J L a)) (a : List Value) : Cor Γ 3 0 0 0 (lv_args 0 a) [] (bX11_heightIf_0 J a) := by
  unfold bX11_heightIf_0
  split
  · rename_i x0 x1
    refine c_sub [0, 1] rfl (loc' := [(0, .ref x0), (1, .int x1)]) ?_
    refine q_aload_n hC 0 dX11_heightIf_0 rfl rfl ?_
    refine q_aload_n hC 0 dX11_heightIf_1 rfl rfl ?_
    refine q_iload_n hC 1 dX11_heightIf_2 rfl rfl ?_
    refine q_cVI hC hnt (stk := [.ref x0]) (as := [.int x1]) sX11_isMark (ci := 11) (by decide) rfl nX11_isMark rfl w_850 w_852 w_853 w_830 w_851 (Nat.le_of_ble_eq_true rfl) dX11_heightIf_3 rfl (fun v1 => ?_)
    refine q_cVI hC hnt (stk := []) (as := [.int v1]) sX11_is (ci := 11) (by decide) rfl nX11_is rfl w_838 w_840 w_841 w_830 w_839 (Nat.le_of_ble_eq_true rfl) dX11_heightIf_6 rfl (fun v2 => ?_)
    refine q_if_ne hC 14 dX11_heightIf_9 rfl ?_ ?_
    · refine q_aload_n hC 0 dX11_heightIf_14 rfl rfl ?_
      refine q_cVV hC hnt (stk := []) (as := []) sX11_tries (ci := 11) (by decide) rfl nX11_tries rfl w_1130 w_1132 w_1133 w_830 w_1131 (Nat.le_of_ble_eq_true rfl) dX11_heightIf_15 rfl ?_
      refine q_aload_n hC 0 dX11_heightIf_18 rfl rfl ?_
      refine q_cVV hC hnt (stk := []) (as := []) sX11_levels (ci := 11) (by decide) rfl nX11_levels rfl w_1134 w_1136 w_1137 w_830 w_1135 (Nat.le_of_ble_eq_true rfl) dX11_heightIf_19 rfl ?_
      refine q_aload_n hC 0 dX11_heightIf_22 rfl rfl ?_
      refine q_iload_n hC 1 dX11_heightIf_23 rfl rfl ?_
      refine q_cVI hC hnt (stk := []) (as := [.int x1]) sX11_heightOf (ci := 11) (by decide) rfl nX11_heightOf rfl w_1077 w_1079 w_1080 w_830 w_1078 (Nat.le_of_ble_eq_true rfl) dX11_heightIf_24 rfl (fun v3 => ?_)
      refine q_istore_nA hC (loc' := [(2, .int v3), (0, .ref x0), (1, .int x1)]) dX11_heightIf_27 rfl (Nat.le_of_ble_eq_true rfl) rfl ?_
      refine q_aload_n hC 1 dX11_heightIf_28 rfl rfl ?_
      refine q_cVV hC hnt (stk := []) (as := []) sX11_laysBack (ci := 11) (by decide) rfl nX11_laysBack rfl w_1142 w_1144 w_1145 w_830 w_1143 (Nat.le_of_ble_eq_true rfl) dX11_heightIf_29 rfl ?_
      refine q_iload_n hC 0 dX11_heightIf_32 rfl rfl ?_
      exact q_iret hC dX11_heightIf_33 (Nat.le_of_ble_eq_true rfl) (Nat.le_of_ble_eq_true rfl)
    · refine q_iconst hC dX11_heightIf_12 rfl ?_
      exact q_iret hC dX11_heightIf_13 (Nat.le_of_ble_eq_true rfl) (Nat.le_of_ble_eq_true rfl)
  · exact c_no
theorem sX11_heightIf : Snd yX11_heightIf (.code yX11_heightIf cX11_heightIf 3 (some .int)) rmX11_heightIf SX11_heightIf := by
  refine Snd.of lX11_heightIf (by decide +kernel) (fun _ => rfl) ?_
  intro Γ hC hnt hnm J hJ L a
  match L with
  | 0 => exact pX11_heightIf_0 hC hnt J hJ a
  | L + 1 => exact c_no
/-! SpiritWallModel.leastLimit()I -/
theorem dX11_leastLimit_0 : decode cX11_leastLimit 0 = .ok (.aload_n 0, 1) := by decide +kernel
theorem dX11_leastLimit_1 : decode cX11_leastLimit 1 = .ok (.iconst 0, 1) := by decide +kernel
theorem dX11_leastLimit_2 : decode cX11_leastLimit 2 = .ok (.putfield 67, 3) := by decide +kernel
theorem dX11_leastLimit_5 : decode cX11_leastLimit 5 = .ok (.aload_n 0, 1) := by decide +kernel
theorem dX11_leastLimit_6 : decode cX11_leastLimit 6 = .ok (.invokevirtual 244, 3) := by decide +kernel
theorem dX11_leastLimit_9 : decode cX11_leastLimit 9 = .ok (.iconst 0, 1) := by decide +kernel
theorem dX11_leastLimit_10 : decode cX11_leastLimit 10 = .ok (.istore_n 1, 1) := by decide +kernel
theorem dX11_leastLimit_11 : decode cX11_leastLimit 11 = .ok (.iconst 0, 1) := by decide +kernel
theorem dX11_leastLimit_12 : decode cX11_leastLimit 12 = .ok (.istore_n 2, 1) := by decide +kernel
theorem dX11_leastLimit_13 : decode cX11_leastLimit 13 = .ok (.iload_n 2, 1) := by decide +kernel
theorem dX11_leastLimit_14 : decode cX11_leastLimit 14 = .ok (.aload_n 0, 1) := by decide +kernel
theorem dX11_leastLimit_15 : decode cX11_leastLimit 15 = .ok (.invokevirtual 235, 3) := by decide +kernel
theorem dX11_leastLimit_18 : decode cX11_leastLimit 18 = .ok (.if_icmp .ge 32, 3) := by decide +kernel
theorem dX11_leastLimit_21 : decode cX11_leastLimit 21 = .ok (.iload_n 1, 1) := by decide +kernel
theorem dX11_leastLimit_22 : decode cX11_leastLimit 22 = .ok (.sipush 999, 3) := by decide +kernel
theorem dX11_leastLimit_25 : decode cX11_leastLimit 25 = .ok (.if_icmp .gt 19, 3) := by decide +kernel
theorem dX11_leastLimit_28 : decode cX11_leastLimit 28 = .ok (.aload_n 0, 1) := by decide +kernel
theorem dX11_leastLimit_29 : decode cX11_leastLimit 29 = .ok (.iload_n 2, 1) := by decide +kernel
theorem dX11_leastLimit_30 : decode cX11_leastLimit 30 = .ok (.iload_n 1, 1) := by decide +kernel
theorem dX11_leastLimit_31 : decode cX11_leastLimit 31 = .ok (.invokevirtual 232, 3) := by decide +kernel
theorem dX11_leastLimit_34 : decode cX11_leastLimit 34 = .ok (.ifCond .ne 10, 3) := by decide +kernel
theorem dX11_leastLimit_37 : decode cX11_leastLimit 37 = .ok (.iload_n 1, 1) := by decide +kernel
theorem dX11_leastLimit_38 : decode cX11_leastLimit 38 = .ok (.iconst 1, 1) := by decide +kernel
theorem dX11_leastLimit_39 : decode cX11_leastLimit 39 = .ok (.iadd, 1) := by decide +kernel
theorem dX11_leastLimit_40 : decode cX11_leastLimit 40 = .ok (.istore_n 1, 1) := by decide +kernel
theorem dX11_leastLimit_41 : decode cX11_leastLimit 41 = .ok (.goto (-20), 3) := by decide +kernel
theorem dX11_leastLimit_44 : decode cX11_leastLimit 44 = .ok (.iinc 2 1, 3) := by decide +kernel
theorem dX11_leastLimit_47 : decode cX11_leastLimit 47 = .ok (.goto (-34), 3) := by decide +kernel
theorem dX11_leastLimit_50 : decode cX11_leastLimit 50 = .ok (.iload_n 1, 1) := by decide +kernel
theorem dX11_leastLimit_51 : decode cX11_leastLimit 51 = .ok (.sipush 999, 3) := by decide +kernel
theorem dX11_leastLimit_54 : decode cX11_leastLimit 54 = .ok (.if_icmp .le 7, 3) := by decide +kernel
theorem dX11_leastLimit_57 : decode cX11_leastLimit 57 = .ok (.iconst (-1), 1) := by decide +kernel
theorem dX11_leastLimit_58 : decode cX11_leastLimit 58 = .ok (.goto 4, 3) := by decide +kernel
theorem dX11_leastLimit_61 : decode cX11_leastLimit 61 = .ok (.iload_n 1, 1) := by decide +kernel
theorem dX11_leastLimit_62 : decode cX11_leastLimit 62 = .ok (.ireturn, 1) := by decide +kernel
def rmX11_leastLimit : Room := rmk 25 0 0 598
theorem nX11_leastLimit : nameOk yX11_leastLimit 0 = true := by decide +kernel
def bX11_leastLimit_0 (J : JT) : List Value → Sem
  | [.ref x0] =>
    pI 11 0 x0 0 <|
    ob 11 x0 (cV SX11_reckons [.ref x0] <|
    J 1 [.ref x0, .int 0, .int 0])
  | _ => no
def bX11_leastLimit_1 (J : JT) : List Value → Sem
  | [.ref x0, .int x1, .int x2] =>
    ob 11 x0 (cI SX11_loops [.ref x0] fun v1 =>
    br (v1 ≤ x2)
    (br (x1 ≤ (999 : Int32))
    (rI x1)
    (rI (-1)))
    (J 2 [.ref x0, .int x1, .int x2]))
  | _ => no
def bX11_leastLimit_2 (J : JT) : List Value → Sem
  | [.ref x0, .int x1, .int x2] =>
    br ((999 : Int32) < x1)
    (J 1 [.ref x0, .int x1, .int (x2 + 1)])
    (ob 11 x0 (cI SX11_closesWith [.ref x0, .int x2, .int x1] fun v1 =>
    br (v1 = 0)
    (lI (x1 + 1) fun y1_2 =>
    J 2 [.ref x0, .int y1_2, .int x2])
    (J 1 [.ref x0, .int x1, .int (x2 + 1)])))
  | _ => no
def bX11_leastLimit (J : JT) : JT := fun L a => match L with
  | 0 => bX11_leastLimit_0 J a
  | 1 => bX11_leastLimit_1 J a
  | 2 => bX11_leastLimit_2 J a
  | _ => no
def SX11_leastLimit : ST := mk 3 bX11_leastLimit
def lX11_leastLimit (L : Nat) (a : List Value) : Nat × Nat × Nat × List (Nat × Value) × List Value := match L with
  | 0 => (0, 0, 0, lv_args 0 a, [])
  | 1 => (0, 0, 13, List.zip [0, 1, 2] a, [])
  | 2 => (0, 0, 21, List.zip [0, 1, 2] a, [])
  | _ => (0, 0, 0, [], [])
theorem pX11_leastLimit_0 {Γ : CT} (hC : Ctx Γ "SpiritWallModel" cX11_leastLimit 3 (some .int) rmX11_leastLimit) (hnt : NT Γ) (J : JT) (hJ : ∀ L a, Cor Γ 3 (lX11_leastLimit L a).1 (lX11_leastLimit L a).2.1 (lX11_leastLimit L a).2.2.1 (lX11_leastLimit L a).2.2.2.1 (lX11_leastLimit L a).2.2.2.2 (J L a)) (a : List Value) : Cor Γ 3 0 0 0 (lv_args 0 a) [] (bX11_leastLimit_0 J a) := by
  unfold bX11_leastLimit_0
  split
  · rename_i x0
    refine c_sub [0] rfl (loc' := [(0, .ref x0)]) ?_
    refine q_aload_n hC 0 dX11_leastLimit_0 rfl rfl ?_
    refine q_iconst hC dX11_leastLimit_1 rfl ?_
    refine q_putI hC (by decide) (by decide) rfl rfl w_833 dX11_leastLimit_2 ?_
    refine q_aload_n hC 0 dX11_leastLimit_5 rfl rfl ?_
    refine q_cVV hC hnt (stk := []) (as := []) sX11_reckons (ci := 11) (by decide) rfl nX11_reckons rfl w_1016 w_1018 w_1019 w_830 w_1017 (Nat.le_of_ble_eq_true rfl) dX11_leastLimit_6 rfl ?_
    refine q_iconst hC dX11_leastLimit_9 rfl ?_
    refine q_istore_nA hC (loc' := [(1, .int 0), (0, .ref x0)]) dX11_leastLimit_10 rfl (Nat.le_of_ble_eq_true rfl) rfl ?_
    refine q_iconst hC dX11_leastLimit_11 rfl ?_
    refine q_istore_nA hC (loc' := [(2, .int 0), (1, .int 0), (0, .ref x0)]) dX11_leastLimit_12 rfl (Nat.le_of_ble_eq_true rfl) rfl ?_
    exact c_sub [2, 1, 0] rfl (hJ 1 [.ref x0, .int 0, .int 0])
  · exact c_no
theorem pX11_leastLimit_1 {Γ : CT} (hC : Ctx Γ "SpiritWallModel" cX11_leastLimit 3 (some .int) rmX11_leastLimit) (hnt : NT Γ) (J : JT) (hJ : ∀ L a, Cor Γ 3 (lX11_leastLimit L a).1 (lX11_leastLimit L a).2.1 (lX11_leastLimit L a).2.2.1 (lX11_leastLimit L a).2.2.2.1 (lX11_leastLimit L a).2.2.2.2 (J L a)) (a : List Value) : Cor Γ 3 0 0 13 (List.zip [0, 1, 2] a) [] (bX11_leastLimit_1 J a) := by
  unfold bX11_leastLimit_1
  split
  · rename_i x0 x1 x2
    refine c_sub [0, 1, 2] rfl (loc' := [(0, .ref x0), (1, .int x1), (2, .int x2)]) ?_
    refine q_iload_n hC 2 dX11_leastLimit_13 rfl rfl ?_
    refine q_aload_n hC 0 dX11_leastLimit_14 rfl rfl ?_
    refine q_cVI hC hnt (stk := [.int x2]) (as := []) sX11_loops (ci := 11) (by decide) rfl nX11_loops rfl w_1004 w_1006 w_1007 w_830 w_1005 (Nat.le_of_ble_eq_true rfl) dX11_leastLimit_15 rfl (fun v1 => ?_)
    refine q_ic_ge hC 50 dX11_leastLimit_18 rfl ?_ ?_
    · refine q_iload_n hC 1 dX11_leastLimit_50 rfl rfl ?_
      refine q_sipush hC (v := 999) dX11_leastLimit_51 rfl ?_
      refine q_ic_le hC 61 dX11_leastLimit_54 rfl ?_ ?_
      · refine q_iload_n hC 1 dX11_leastLimit_61 rfl rfl ?_
        exact q_iret hC dX11_leastLimit_62 (Nat.le_of_ble_eq_true rfl) (Nat.le_of_ble_eq_true rfl)
      · refine q_iconst hC dX11_leastLimit_57 rfl ?_
        refine q_goto hC 62 dX11_leastLimit_58 rfl ?_
        exact q_iret hC dX11_leastLimit_62 (Nat.le_of_ble_eq_true rfl) (Nat.le_of_ble_eq_true rfl)
    · exact c_sub [0, 1, 2] rfl (hJ 2 [.ref x0, .int x1, .int x2])
  · exact c_no
theorem pX11_leastLimit_2 {Γ : CT} (hC : Ctx Γ "SpiritWallModel" cX11_leastLimit 3 (some .int) rmX11_leastLimit) (hnt : NT Γ) (J : JT) (hJ : ∀ L a, Cor Γ 3 (lX11_leastLimit L a).1 (lX11_leastLimit L a).2.1 (lX11_leastLimit L a).2.2.1 (lX11_leastLimit L a).2.2.2.1 (lX11_leastLimit L a).2.2.2.2 (J L a)) (a : List Value) : Cor Γ 3 0 0 21 (List.zip [0, 1, 2] a) [] (bX11_leastLimit_2 J a) := by
  unfold bX11_leastLimit_2
  split
  · rename_i x0 x1 x2
    refine c_sub [0, 1, 2] rfl (loc' := [(0, .ref x0), (1, .int x1), (2, .int x2)]) ?_
    refine q_iload_n hC 1 dX11_leastLimit_21 rfl rfl ?_
    refine q_sipush hC (v := 999) dX11_leastLimit_22 rfl ?_
    refine q_ic_gt hC 44 dX11_leastLimit_25 rfl ?_ ?_
    · refine q_iincA hC (loc' := [(2, .int (x2 + 1)), (0, .ref x0), (1, .int x1)]) 2 1 dX11_leastLimit_44 rfl rfl (Nat.le_of_ble_eq_true rfl) rfl ?_
      refine q_goto hC 13 dX11_leastLimit_47 rfl ?_
      exact c_sub [1, 2, 0] rfl (hJ 1 [.ref x0, .int x1, .int (x2 + 1)])
    · refine q_aload_n hC 0 dX11_leastLimit_28 rfl rfl ?_
      refine q_iload_n hC 2 dX11_leastLimit_29 rfl rfl ?_
      refine q_iload_n hC 1 dX11_leastLimit_30 rfl rfl ?_
      refine q_cVI hC hnt (stk := []) (as := [.int x2, .int x1]) sX11_closesWith (ci := 11) (by decide) rfl nX11_closesWith rfl w_1000 w_1002 w_1003 w_830 w_1001 (Nat.le_of_ble_eq_true rfl) dX11_leastLimit_31 rfl (fun v1 => ?_)
      refine q_if_ne hC 44 dX11_leastLimit_34 rfl ?_ ?_
      · refine q_iincA hC (loc' := [(2, .int (x2 + 1)), (0, .ref x0), (1, .int x1)]) 2 1 dX11_leastLimit_44 rfl rfl (Nat.le_of_ble_eq_true rfl) rfl ?_
        refine q_goto hC 13 dX11_leastLimit_47 rfl ?_
        exact c_sub [1, 2, 0] rfl (hJ 1 [.ref x0, .int x1, .int (x2 + 1)])
      · refine q_iload_n hC 1 dX11_leastLimit_37 rfl rfl ?_
        refine q_iconst hC dX11_leastLimit_38 rfl ?_
        refine q_iadd hC dX11_leastLimit_39 ?_
        refine q_istore_n hC (fun y1_2 => [(1, .int y1_2), (0, .ref x0), (2, .int x2)]) dX11_leastLimit_40 rfl (Nat.le_of_ble_eq_true rfl) (fun _ => rfl) (fun y1_2 => ?_)
        refine q_goto hC 21 dX11_leastLimit_41 rfl ?_
        exact c_sub [1, 0, 2] rfl (hJ 2 [.ref x0, .int y1_2, .int x2])
  · exact c_no
theorem sX11_leastLimit : Snd yX11_leastLimit (.code yX11_leastLimit cX11_leastLimit 3 (some .int)) rmX11_leastLimit SX11_leastLimit := by
  refine Snd.of lX11_leastLimit (by decide +kernel) (fun _ => rfl) ?_
  intro Γ hC hnt hnm J hJ L a
  match L with
  | 0 => exact pX11_leastLimit_0 hC hnt J hJ a
  | 1 => exact pX11_leastLimit_1 hC hnt J hJ a
  | 2 => exact pX11_leastLimit_2 hC hnt J hJ a
  | L + 3 => exact c_no
/-! SpiritWallModel.addsSight(IIIII)I -/
theorem dX11_addsSight_0 : decode cX11_addsSight 0 = .ok (.aload_n 0, 1) := by decide +kernel
theorem dX11_addsSight_1 : decode cX11_addsSight 1 = .ok (.invokevirtual 97, 3) := by decide +kernel
theorem dX11_addsSight_4 : decode cX11_addsSight 4 = .ok (.istore 6, 2) := by decide +kernel
theorem dX11_addsSight_6 : decode cX11_addsSight 6 = .ok (.aload_n 0, 1) := by decide +kernel
theorem dX11_addsSight_7 : decode cX11_addsSight 7 = .ok (.iload 6, 2) := by decide +kernel
theorem dX11_addsSight_9 : decode cX11_addsSight 9 = .ok (.iconst 0, 1) := by decide +kernel
theorem dX11_addsSight_10 : decode cX11_addsSight 10 = .ok (.iload_n 1, 1) := by decide +kernel
theorem dX11_addsSight_11 : decode cX11_addsSight 11 = .ok (.invokevirtual 331, 3) := by decide +kernel
theorem dX11_addsSight_14 : decode cX11_addsSight 14 = .ok (.aload_n 0, 1) := by decide +kernel
theorem dX11_addsSight_15 : decode cX11_addsSight 15 = .ok (.iload 6, 2) := by decide +kernel
theorem dX11_addsSight_17 : decode cX11_addsSight 17 = .ok (.iconst 1, 1) := by decide +kernel
theorem dX11_addsSight_18 : decode cX11_addsSight 18 = .ok (.iload_n 2, 1) := by decide +kernel
theorem dX11_addsSight_19 : decode cX11_addsSight 19 = .ok (.invokevirtual 331, 3) := by decide +kernel
theorem dX11_addsSight_22 : decode cX11_addsSight 22 = .ok (.aload_n 0, 1) := by decide +kernel
theorem dX11_addsSight_23 : decode cX11_addsSight 23 = .ok (.iload 6, 2) := by decide +kernel
theorem dX11_addsSight_25 : decode cX11_addsSight 25 = .ok (.iconst 2, 1) := by decide +kernel
theorem dX11_addsSight_26 : decode cX11_addsSight 26 = .ok (.iload_n 3, 1) := by decide +kernel
theorem dX11_addsSight_27 : decode cX11_addsSight 27 = .ok (.invokevirtual 331, 3) := by decide +kernel
theorem dX11_addsSight_30 : decode cX11_addsSight 30 = .ok (.aload_n 0, 1) := by decide +kernel
theorem dX11_addsSight_31 : decode cX11_addsSight 31 = .ok (.iload 6, 2) := by decide +kernel
theorem dX11_addsSight_33 : decode cX11_addsSight 33 = .ok (.iconst 3, 1) := by decide +kernel
theorem dX11_addsSight_34 : decode cX11_addsSight 34 = .ok (.iload 4, 2) := by decide +kernel
theorem dX11_addsSight_36 : decode cX11_addsSight 36 = .ok (.invokevirtual 331, 3) := by decide +kernel
theorem dX11_addsSight_39 : decode cX11_addsSight 39 = .ok (.aload_n 0, 1) := by decide +kernel
theorem dX11_addsSight_40 : decode cX11_addsSight 40 = .ok (.iload 6, 2) := by decide +kernel
theorem dX11_addsSight_42 : decode cX11_addsSight 42 = .ok (.iconst 4, 1) := by decide +kernel
theorem dX11_addsSight_43 : decode cX11_addsSight 43 = .ok (.iload 5, 2) := by decide +kernel
theorem dX11_addsSight_45 : decode cX11_addsSight 45 = .ok (.invokevirtual 331, 3) := by decide +kernel
theorem dX11_addsSight_48 : decode cX11_addsSight 48 = .ok (.aload_n 0, 1) := by decide +kernel
theorem dX11_addsSight_49 : decode cX11_addsSight 49 = .ok (.iload 6, 2) := by decide +kernel
theorem dX11_addsSight_51 : decode cX11_addsSight 51 = .ok (.iconst 5, 1) := by decide +kernel
theorem dX11_addsSight_52 : decode cX11_addsSight 52 = .ok (.iconst 0, 1) := by decide +kernel
theorem dX11_addsSight_53 : decode cX11_addsSight 53 = .ok (.invokevirtual 331, 3) := by decide +kernel
theorem dX11_addsSight_56 : decode cX11_addsSight 56 = .ok (.aload_n 0, 1) := by decide +kernel
theorem dX11_addsSight_57 : decode cX11_addsSight 57 = .ok (.getfield 7, 3) := by decide +kernel
theorem dX11_addsSight_60 : decode cX11_addsSight 60 = .ok (.iconst 1, 1) := by decide +kernel
theorem dX11_addsSight_61 : decode cX11_addsSight 61 = .ok (.iload 6, 2) := by decide +kernel
theorem dX11_addsSight_63 : decode cX11_addsSight 63 = .ok (.iconst 1, 1) := by decide +kernel
theorem dX11_addsSight_64 : decode cX11_addsSight 64 = .ok (.iadd, 1) := by decide +kernel
theorem dX11_addsSight_65 : decode cX11_addsSight 65 = .ok (.iastore, 1) := by decide +kernel
theorem dX11_addsSight_66 : decode cX11_addsSight 66 = .ok (.iload 6, 2) := by decide +kernel
theorem dX11_addsSight_68 : decode cX11_addsSight 68 = .ok (.ireturn, 1) := by decide +kernel
def rmX11_addsSight : Room := rmk 7 0 0 173
theorem nX11_addsSight : nameOk yX11_addsSight 5 = true := by decide +kernel
def bX11_addsSight_0 (J : JT) : List Value → Sem
  | [.ref x0, .int x1, .int x2, .int x3, .int x4, .int x5] =>
    ob 11 x0 (cI SX11_sights [.ref x0] fun v1 =>
    ob 11 x0 (cV SX11_laysSight [.ref x0, .int v1, .int 0, .int x1] <|
    ob 11 x0 (cV SX11_laysSight [.ref x0, .int v1, .int 1, .int x2] <|
    ob 11 x0 (cV SX11_laysSight [.ref x0, .int v1, .int 2, .int x3] <|
    ob 11 x0 (cV SX11_laysSight [.ref x0, .int v1, .int 3, .int x4] <|
    ob 11 x0 (cV SX11_laysSight [.ref x0, .int v1, .int 4, .int x5] <|
    ob 11 x0 (cV SX11_laysSight [.ref x0, .int v1, .int 5, .int 0] <|
    gR 11 1 x0 fun r2 =>
    sA r2 1 (v1 + 1) <|
    rI v1)))))))
  | _ => no
def bX11_addsSight (J : JT) : JT := fun L a => match L with
  | 0 => bX11_addsSight_0 J a
  | _ => no
def SX11_addsSight : ST := mk 7 bX11_addsSight
def lX11_addsSight (L : Nat) (a : List Value) : Nat × Nat × Nat × List (Nat × Value) × List Value := match L with
  | 0 => (0, 0, 0, lv_args 0 a, [])
  | _ => (0, 0, 0, [], [])
theorem pX11_addsSight_0 {Γ : CT} (hC : Ctx Γ "SpiritWallModel" cX11_addsSight 7 (some .int) rmX11_addsSight) (hnt : NT Γ) (J : JT) (hJ : ∀ L a, Cor Γ 7 (lX11_addsSight L a).1 (lX11_addsSight L a).2.1 (lX11_addsSight L a).2.2.1 (lX11_addsSight L a).2.2.2.1 (lX11_addsSight L a).2.2.2.2 (J L a)) (a : List Value) : Cor Γ 7 0 0 0 (lv_args 0 a) [] (bX11_addsSight_0 J a) := by
  unfold bX11_addsSight_0
  split
  · rename_i x0 x1 x2 x3 x4 x5
    refine c_sub [0, 1, 2, 3, 4, 5] rfl (loc' := [(0, .ref x0), (1, .int x1), (2, .int x2), (3, .int x3), (4, .int x4), (5, .int x5)]) ?_
    refine q_aload_n hC 0 dX11_addsSight_0 rfl rfl ?_
    refine q_cVI hC hnt (stk := []) (as := []) sX11_sights (ci := 11) (by decide) rfl nX11_sights rfl w_854 w_856 w_857 w_830 w_855 (Nat.le_of_ble_eq_true rfl) dX11_addsSight_1 rfl (fun v1 => ?_)
    refine q_istoreA hC (loc' := [(6, .int v1), (0, .ref x0), (1, .int x1), (2, .int x2), (3, .int x3), (4, .int x4), (5, .int x5)]) dX11_addsSight_4 (Nat.le_of_ble_eq_true rfl) rfl ?_
    refine q_aload_n hC 1 dX11_addsSight_6 rfl rfl ?_
    refine q_iload hC 0 dX11_addsSight_7 rfl ?_
    refine q_iconst hC dX11_addsSight_9 rfl ?_
    refine q_iload_n hC 2 dX11_addsSight_10 rfl rfl ?_
    refine q_cVV hC hnt (stk := []) (as := [.int v1, .int 0, .int x1]) sX11_laysSight (ci := 11) (by decide) rfl nX11_laysSight rfl w_1120 w_1122 w_1123 w_830 w_1121 (Nat.le_of_ble_eq_true rfl) dX11_addsSight_11 rfl ?_
    refine q_aload_n hC 1 dX11_addsSight_14 rfl rfl ?_
    refine q_iload hC 0 dX11_addsSight_15 rfl ?_
    refine q_iconst hC dX11_addsSight_17 rfl ?_
    refine q_iload_n hC 3 dX11_addsSight_18 rfl rfl ?_
    refine q_cVV hC hnt (stk := []) (as := [.int v1, .int 1, .int x2]) sX11_laysSight (ci := 11) (by decide) rfl nX11_laysSight rfl w_1120 w_1122 w_1123 w_830 w_1121 (Nat.le_of_ble_eq_true rfl) dX11_addsSight_19 rfl ?_
    refine q_aload_n hC 1 dX11_addsSight_22 rfl rfl ?_
    refine q_iload hC 0 dX11_addsSight_23 rfl ?_
    refine q_iconst hC dX11_addsSight_25 rfl ?_
    refine q_iload_n hC 4 dX11_addsSight_26 rfl rfl ?_
    refine q_cVV hC hnt (stk := []) (as := [.int v1, .int 2, .int x3]) sX11_laysSight (ci := 11) (by decide) rfl nX11_laysSight rfl w_1120 w_1122 w_1123 w_830 w_1121 (Nat.le_of_ble_eq_true rfl) dX11_addsSight_27 rfl ?_
    refine q_aload_n hC 1 dX11_addsSight_30 rfl rfl ?_
    refine q_iload hC 0 dX11_addsSight_31 rfl ?_
    refine q_iconst hC dX11_addsSight_33 rfl ?_
    refine q_iload hC 5 dX11_addsSight_34 rfl ?_
    refine q_cVV hC hnt (stk := []) (as := [.int v1, .int 3, .int x4]) sX11_laysSight (ci := 11) (by decide) rfl nX11_laysSight rfl w_1120 w_1122 w_1123 w_830 w_1121 (Nat.le_of_ble_eq_true rfl) dX11_addsSight_36 rfl ?_
    refine q_aload_n hC 1 dX11_addsSight_39 rfl rfl ?_
    refine q_iload hC 0 dX11_addsSight_40 rfl ?_
    refine q_iconst hC dX11_addsSight_42 rfl ?_
    refine q_iload hC 6 dX11_addsSight_43 rfl ?_
    refine q_cVV hC hnt (stk := []) (as := [.int v1, .int 4, .int x5]) sX11_laysSight (ci := 11) (by decide) rfl nX11_laysSight rfl w_1120 w_1122 w_1123 w_830 w_1121 (Nat.le_of_ble_eq_true rfl) dX11_addsSight_45 rfl ?_
    refine q_aload_n hC 1 dX11_addsSight_48 rfl rfl ?_
    refine q_iload hC 0 dX11_addsSight_49 rfl ?_
    refine q_iconst hC dX11_addsSight_51 rfl ?_
    refine q_iconst hC dX11_addsSight_52 rfl ?_
    refine q_cVV hC hnt (stk := []) (as := [.int v1, .int 5, .int 0]) sX11_laysSight (ci := 11) (by decide) rfl nX11_laysSight rfl w_1120 w_1122 w_1123 w_830 w_1121 (Nat.le_of_ble_eq_true rfl) dX11_addsSight_53 rfl ?_
    refine q_aload_n hC 1 dX11_addsSight_56 rfl rfl ?_
    refine q_getR hC (by decide) (by decide) rfl w_808 dX11_addsSight_57 (fun r2 => ?_)
    refine q_iconst hC dX11_addsSight_60 rfl ?_
    refine q_iload hC 0 dX11_addsSight_61 rfl ?_
    refine q_iconst hC dX11_addsSight_63 rfl ?_
    refine q_iadd hC dX11_addsSight_64 ?_
    refine q_iast hC dX11_addsSight_65 ?_
    refine q_iload hC 0 dX11_addsSight_66 rfl ?_
    exact q_iret hC dX11_addsSight_68 (Nat.le_of_ble_eq_true rfl) (Nat.le_of_ble_eq_true rfl)
  · exact c_no
theorem sX11_addsSight : Snd yX11_addsSight (.code yX11_addsSight cX11_addsSight 7 (some .int)) rmX11_addsSight SX11_addsSight := by
  refine Snd.of lX11_addsSight (by decide +kernel) (fun _ => rfl) ?_
  intro Γ hC hnt hnm J hJ L a
  match L with
  | 0 => exact pX11_addsSight_0 hC hnt J hJ a
  | L + 1 => exact c_no
/-! SpiritWallModel.isReading(I)Z -/
theorem dX11_isReading_0 : decode cX11_isReading 0 = .ok (.iload_n 0, 1) := by decide +kernel
theorem dX11_isReading_1 : decode cX11_isReading 1 = .ok (.i2l, 1) := by decide +kernel
theorem dX11_isReading_2 : decode cX11_isReading 2 = .ok (.ldc2_w 353, 3) := by decide +kernel
theorem dX11_isReading_5 : decode cX11_isReading 5 = .ok (.ldc2_w 337, 3) := by decide +kernel
theorem dX11_isReading_8 : decode cX11_isReading 8 = .ok (.invokestatic 89, 3) := by decide +kernel
theorem dX11_isReading_11 : decode cX11_isReading 11 = .ok (.ireturn, 1) := by decide +kernel
def rmX11_isReading : Room := rmk 7 0 0 175
theorem nX11_isReading : nameOk yX11_isReading 1 = true := by decide +kernel
def bX11_isReading_0 (J : JT) : List Value → Sem
  | [.int x0] =>
    cI SX11_isIn [.long (x0.toInt64), .long (-9999), .long 9999] fun v1 =>
    rZ v1
  | _ => no
def bX11_isReading (J : JT) : JT := fun L a => match L with
  | 0 => bX11_isReading_0 J a
  | _ => no
def SX11_isReading : ST := mk 1 bX11_isReading
def lX11_isReading (L : Nat) (a : List Value) : Nat × Nat × Nat × List (Nat × Value) × List Value := match L with
  | 0 => (0, 0, 0, lv_args 0 a, [])
  | _ => (0, 0, 0, [], [])
theorem pX11_isReading_0 {Γ : CT} (hC : Ctx Γ "SpiritWallModel" cX11_isReading 1 (some .boolean) rmX11_isReading) (hnt : NT Γ) (J : JT) (hJ : ∀ L a, Cor Γ 1 (lX11_isReading L a).1 (lX11_isReading L a).2.1 (lX11_isReading L a).2.2.1 (lX11_isReading L a).2.2.2.1 (lX11_isReading L a).2.2.2.2 (J L a)) (a : List Value) : Cor Γ 1 0 0 0 (lv_args 0 a) [] (bX11_isReading_0 J a) := by
  unfold bX11_isReading_0
  split
  · rename_i x0
    refine c_sub [0] rfl (loc' := [(0, .int x0)]) ?_
    refine q_iload_n hC 0 dX11_isReading_0 rfl rfl ?_
    refine q_i2l hC dX11_isReading_1 ?_
    refine q_ldc2 hC w_1146 dX11_isReading_2 ?_
    refine q_ldc2 hC w_1128 dX11_isReading_5 ?_
    refine q_cSI hC hnt (stk := []) (as := [.long (x0.toInt64), .long (-9999), .long 9999]) sX11_isIn nX11_isIn rfl w_847 w_849 w_830 w_848 (Nat.le_of_ble_eq_true rfl) dX11_isReading_8 rfl (fun v1 => ?_)
    exact q_zret hC dX11_isReading_11 (Nat.le_of_ble_eq_true rfl) (Nat.le_of_ble_eq_true rfl)
  · exact c_no
theorem sX11_isReading : Snd yX11_isReading (.code yX11_isReading cX11_isReading 1 (some .boolean)) rmX11_isReading SX11_isReading := by
  refine Snd.of lX11_isReading (by decide +kernel) (fun _ => rfl) ?_
  intro Γ hC hnt hnm J hJ L a
  match L with
  | 0 => exact pX11_isReading_0 hC hnt J hJ a
  | L + 1 => exact c_no
