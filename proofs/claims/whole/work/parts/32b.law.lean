def cl27 (L : Nat) (xs : Nat → Int32) (J : LT) (x1 x2 x3 : Nat) (x4 : Int32) : Sem :=
    ob 10 x1 (cI SX10_bridges [.ref x1] fun v1 =>
    ob 11 x2 (cI SX11_bridges [.ref x2] fun v2 =>
    br (v1 = v2)
    (J x1 x2 x3 (x4 + 6))
    (rZ 0)))
theorem pcl27 {Γ : CT} (hC : Ctx Γ "SpiritWallLaw" cL_law 9 (some .boolean) room_1) (hnt : NT Γ) (hN : NcA (kS Γ)) {L : Nat} {xs : Nat → Int32} (hX : Scr Γ L xs) (J : LT) {cn sn x1 x2 x3 : Nat} {x4 : Int32} (h1 : cn + 100 ≤ 601024) (h2 : sn + 1000 ≤ 7293034)
    (hJ : Cor Γ 9 (cn + 100) (sn + 1000) 23 [(0, .ref 1900), (1, .ref x1), (2, .ref x2), (3, .ref x3), (4, .int (x4 + 6))] [] (J x1 x2 x3 (x4 + 6))) : Cor Γ 9 cn sn 1395 [(0, .ref 1900), (1, .ref x1), (2, .ref x2), (3, .ref x3), (4, .int x4)] [] (cl27 L xs J x1 x2 x3 x4) := by
  unfold cl27
  refine q_aload_n hC 1 dL_law_1395 rfl rfl ?_
  refine q_cVI hC hnt (stk := []) (as := []) sX10_bridges (ci := 10) (by decide) rfl nX10_bridges (roomOk_of (by simp only [rmX10_bridges, rmX11_bridges, rmk, room_1]; omega)) w_1615 w_1617 w_1618 w_27 w_1616 (Nat.le_of_ble_eq_true rfl) dL_law_1396 rfl (fun v1 => ?_)
  refine q_aload_n hC 2 dL_law_1399 rfl rfl ?_
  refine q_cVI hC hnt (stk := [.int v1]) (as := []) sX11_bridges (ci := 11) (by decide) rfl nX11_bridges (roomOk_of (by simp only [rmX10_bridges, rmX11_bridges, rmk, room_1]; omega)) w_1619 w_1621 w_1622 w_830 w_1620 (Nat.le_of_ble_eq_true rfl) dL_law_1400 rfl (fun v2 => ?_)
  refine q_ic_eq hC 2592 dL_law_1403 rfl ?_ ?_
  · refine q_iincA hC (loc' := [(4, .int (x4 + 6)), (0, .ref 1900), (1, .ref x1), (2, .ref x2), (3, .ref x3)]) 4 6 dL_law_2592 rfl rfl (Nat.le_of_ble_eq_true rfl) rfl ?_
    refine q_goto hC 23 dL_law_2595 rfl ?_
    exact c_widen (by simp only [rmX10_bridges, rmX11_bridges, rmk, room_1]; omega) (by simp only [rmX10_bridges, rmX11_bridges, rmk, room_1]; omega) (c_sub [1, 2, 3, 4, 0] rfl hJ)
  · refine q_iconst hC dL_law_1406 rfl ?_
    exact q_zret hC dL_law_1407 (by simp only [rmX10_bridges, rmX11_bridges, rmk, room_1]; omega) (by simp only [rmX10_bridges, rmX11_bridges, rmk, room_1]; omega)
def cl28 (L : Nat) (xs : Nat → Int32) (J : LT) (x1 x2 x3 : Nat) (x4 : Int32) : Sem :=
    ob 10 x1 (cD SX10_meanSwings [.ref x1] fun v1 =>
    ob 11 x2 (cD SX11_meanSwings [.ref x2] fun v2 =>
    br ((Op.cmpValue (FP.dcmp v1 v2) .l) = 0)
    (J x1 x2 x3 (x4 + 6))
    (br ((Op.cmpValue (FP.dcmp v1 v1) .l) = 0)
    (rZ 0)
    (br ((Op.cmpValue (FP.dcmp v2 v2) .l) = 0)
    (rZ 0)
    (J x1 x2 x3 (x4 + 6))))))
theorem pcl28 {Γ : CT} (hC : Ctx Γ "SpiritWallLaw" cL_law 9 (some .boolean) room_1) (hnt : NT Γ) (hN : NcA (kS Γ)) {L : Nat} {xs : Nat → Int32} (hX : Scr Γ L xs) (J : LT) {cn sn x1 x2 x3 : Nat} {x4 : Int32} (h1 : cn + 100 ≤ 601024) (h2 : sn + 1000 ≤ 7293034)
    (hJ : Cor Γ 9 (cn + 100) (sn + 1000) 23 [(0, .ref 1900), (1, .ref x1), (2, .ref x2), (3, .ref x3), (4, .int (x4 + 6))] [] (J x1 x2 x3 (x4 + 6))) : Cor Γ 9 cn sn 1408 [(0, .ref 1900), (1, .ref x1), (2, .ref x2), (3, .ref x3), (4, .int x4)] [] (cl28 L xs J x1 x2 x3 x4) := by
  unfold cl28
  refine q_aload_n hC 1 dL_law_1408 rfl rfl ?_
  refine q_cVD hC hnt (stk := []) (as := []) sX10_meanSwings (ci := 10) (by decide) rfl nX10_meanSwings (roomOk_of (by simp only [rmX10_meanSwings, rmX11_meanSwings, rmk, room_1]; omega)) w_1623 w_1625 w_1626 w_27 w_1624 (Nat.le_of_ble_eq_true rfl) dL_law_1409 rfl (fun v1 => ?_)
  refine q_dstoreA hC (loc' := [(5, .double v1), (0, .ref 1900), (1, .ref x1), (2, .ref x2), (3, .ref x3), (4, .int x4)]) dL_law_1412 (Nat.le_of_ble_eq_true rfl) rfl ?_
  refine q_aload_n hC 3 dL_law_1414 rfl rfl ?_
  refine q_cVD hC hnt (stk := []) (as := []) sX11_meanSwings (ci := 11) (by decide) rfl nX11_meanSwings (roomOk_of (by simp only [rmX10_meanSwings, rmX11_meanSwings, rmk, room_1]; omega)) w_1627 w_1629 w_1630 w_830 w_1628 (Nat.le_of_ble_eq_true rfl) dL_law_1415 rfl (fun v2 => ?_)
  refine q_dstoreA hC (loc' := [(7, .double v2), (5, .double v1), (0, .ref 1900), (1, .ref x1), (2, .ref x2), (3, .ref x3), (4, .int x4)]) dL_law_1418 (Nat.le_of_ble_eq_true rfl) rfl ?_
  refine q_dload hC 1 dL_law_1420 rfl ?_
  refine q_dload hC 0 dL_law_1422 rfl ?_
  refine q_dcmp hC dL_law_1424 ?_
  refine q_if_eq hC 1446 dL_law_1425 rfl ?_ ?_
  · refine q_goto hC 2592 dL_law_1446 rfl ?_
    refine q_iincA hC (loc' := [(4, .int (x4 + 6)), (7, .double v2), (5, .double v1), (0, .ref 1900), (1, .ref x1), (2, .ref x2), (3, .ref x3)]) 6 6 dL_law_2592 rfl rfl (Nat.le_of_ble_eq_true rfl) rfl ?_
    refine q_goto hC 23 dL_law_2595 rfl ?_
    exact c_widen (by simp only [rmX10_meanSwings, rmX11_meanSwings, rmk, room_1]; omega) (by simp only [rmX10_meanSwings, rmX11_meanSwings, rmk, room_1]; omega) (c_sub [3, 4, 5, 6, 0] rfl hJ)
  · refine q_dload hC 1 dL_law_1428 rfl ?_
    refine q_dload hC 1 dL_law_1430 rfl ?_
    refine q_dcmp hC dL_law_1432 ?_
    refine q_if_eq hC 1444 dL_law_1433 rfl ?_ ?_
    · refine q_iconst hC dL_law_1444 rfl ?_
      exact q_zret hC dL_law_1445 (by simp only [rmX10_meanSwings, rmX11_meanSwings, rmk, room_1]; omega) (by simp only [rmX10_meanSwings, rmX11_meanSwings, rmk, room_1]; omega)
    · refine q_dload hC 0 dL_law_1436 rfl ?_
      refine q_dload hC 0 dL_law_1438 rfl ?_
      refine q_dcmp hC dL_law_1440 ?_
      refine q_if_ne hC 1446 dL_law_1441 rfl ?_ ?_
      · refine q_goto hC 2592 dL_law_1446 rfl ?_
        refine q_iincA hC (loc' := [(4, .int (x4 + 6)), (7, .double v2), (5, .double v1), (0, .ref 1900), (1, .ref x1), (2, .ref x2), (3, .ref x3)]) 6 6 dL_law_2592 rfl rfl (Nat.le_of_ble_eq_true rfl) rfl ?_
        refine q_goto hC 23 dL_law_2595 rfl ?_
        exact c_widen (by simp only [rmX10_meanSwings, rmX11_meanSwings, rmk, room_1]; omega) (by simp only [rmX10_meanSwings, rmX11_meanSwings, rmk, room_1]; omega) (c_sub [3, 4, 5, 6, 0] rfl hJ)
      · refine q_iconst hC dL_law_1444 rfl ?_
        exact q_zret hC dL_law_1445 (by simp only [rmX10_meanSwings, rmX11_meanSwings, rmk, room_1]; omega) (by simp only [rmX10_meanSwings, rmX11_meanSwings, rmk, room_1]; omega)
def cl29 (L : Nat) (xs : Nat → Int32) (J : LT) (x1 x2 x3 : Nat) (x4 : Int32) : Sem :=
    ob 10 x1 (cF SX10_closedShare [.ref x1] fun v1 =>
    nan64 (FP.f2d v1) <|
    ob 11 x2 (cF SX11_closedShare [.ref x2] fun v2 =>
    nan64 (FP.f2d v2) <|
    br ((Op.cmpValue (FP.dcmp (FP.f2d v1) (FP.f2d v2)) .l) = 0)
    (J x1 x2 x3 (x4 + 6))
    (br ((Op.cmpValue (FP.dcmp (FP.f2d v1) (FP.f2d v1)) .l) = 0)
    (rZ 0)
    (br ((Op.cmpValue (FP.dcmp (FP.f2d v2) (FP.f2d v2)) .l) = 0)
    (rZ 0)
    (J x1 x2 x3 (x4 + 6))))))
theorem pcl29 {Γ : CT} (hC : Ctx Γ "SpiritWallLaw" cL_law 9 (some .boolean) room_1) (hnt : NT Γ) (hN : NcA (kS Γ)) {L : Nat} {xs : Nat → Int32} (hX : Scr Γ L xs) (J : LT) {cn sn x1 x2 x3 : Nat} {x4 : Int32} (h1 : cn + 100 ≤ 601024) (h2 : sn + 1000 ≤ 7293034)
    (hJ : Cor Γ 9 (cn + 100) (sn + 1000) 23 [(0, .ref 1900), (1, .ref x1), (2, .ref x2), (3, .ref x3), (4, .int (x4 + 6))] [] (J x1 x2 x3 (x4 + 6))) : Cor Γ 9 cn sn 1449 [(0, .ref 1900), (1, .ref x1), (2, .ref x2), (3, .ref x3), (4, .int x4)] [] (cl29 L xs J x1 x2 x3 x4) := by
  unfold cl29
  refine q_aload_n hC 1 dL_law_1449 rfl rfl ?_
  refine q_cVF hC hnt (stk := []) (as := []) sX10_closedShare (ci := 10) (by decide) rfl nX10_closedShare (roomOk_of (by simp only [rmX10_closedShare, rmX11_closedShare, rmk, room_1]; omega)) w_1631 w_1633 w_1634 w_27 w_1632 (Nat.le_of_ble_eq_true rfl) dL_law_1450 rfl (fun v1 => ?_)
  refine q_f2d hC dL_law_1453 ?_
  refine q_dstoreA hC (loc' := [(5, .double (FP.f2d v1)), (0, .ref 1900), (1, .ref x1), (2, .ref x2), (3, .ref x3), (4, .int x4)]) dL_law_1454 (Nat.le_of_ble_eq_true rfl) rfl ?_
  refine q_aload_n hC 3 dL_law_1456 rfl rfl ?_
  refine q_cVF hC hnt (stk := []) (as := []) sX11_closedShare (ci := 11) (by decide) rfl nX11_closedShare (roomOk_of (by simp only [rmX10_closedShare, rmX11_closedShare, rmk, room_1]; omega)) w_1635 w_1637 w_1638 w_830 w_1636 (Nat.le_of_ble_eq_true rfl) dL_law_1457 rfl (fun v2 => ?_)
  refine q_f2d hC dL_law_1460 ?_
  refine q_dstoreA hC (loc' := [(7, .double (FP.f2d v2)), (5, .double (FP.f2d v1)), (0, .ref 1900), (1, .ref x1), (2, .ref x2), (3, .ref x3), (4, .int x4)]) dL_law_1461 (Nat.le_of_ble_eq_true rfl) rfl ?_
  refine q_dload hC 1 dL_law_1463 rfl ?_
  refine q_dload hC 0 dL_law_1465 rfl ?_
  refine q_dcmp hC dL_law_1467 ?_
  refine q_if_eq hC 1489 dL_law_1468 rfl ?_ ?_
  · refine q_goto hC 2592 dL_law_1489 rfl ?_
    refine q_iincA hC (loc' := [(4, .int (x4 + 6)), (7, .double (FP.f2d v2)), (5, .double (FP.f2d v1)), (0, .ref 1900), (1, .ref x1), (2, .ref x2), (3, .ref x3)]) 6 6 dL_law_2592 rfl rfl (Nat.le_of_ble_eq_true rfl) rfl ?_
    refine q_goto hC 23 dL_law_2595 rfl ?_
    exact c_widen (by simp only [rmX10_closedShare, rmX11_closedShare, rmk, room_1]; omega) (by simp only [rmX10_closedShare, rmX11_closedShare, rmk, room_1]; omega) (c_sub [3, 4, 5, 6, 0] rfl hJ)
  · refine q_dload hC 1 dL_law_1471 rfl ?_
    refine q_dload hC 1 dL_law_1473 rfl ?_
    refine q_dcmp hC dL_law_1475 ?_
    refine q_if_eq hC 1487 dL_law_1476 rfl ?_ ?_
    · refine q_iconst hC dL_law_1487 rfl ?_
      exact q_zret hC dL_law_1488 (by simp only [rmX10_closedShare, rmX11_closedShare, rmk, room_1]; omega) (by simp only [rmX10_closedShare, rmX11_closedShare, rmk, room_1]; omega)
    · refine q_dload hC 0 dL_law_1479 rfl ?_
      refine q_dload hC 0 dL_law_1481 rfl ?_
      refine q_dcmp hC dL_law_1483 ?_
      refine q_if_ne hC 1489 dL_law_1484 rfl ?_ ?_
      · refine q_goto hC 2592 dL_law_1489 rfl ?_
        refine q_iincA hC (loc' := [(4, .int (x4 + 6)), (7, .double (FP.f2d v2)), (5, .double (FP.f2d v1)), (0, .ref 1900), (1, .ref x1), (2, .ref x2), (3, .ref x3)]) 6 6 dL_law_2592 rfl rfl (Nat.le_of_ble_eq_true rfl) rfl ?_
        refine q_goto hC 23 dL_law_2595 rfl ?_
        exact c_widen (by simp only [rmX10_closedShare, rmX11_closedShare, rmk, room_1]; omega) (by simp only [rmX10_closedShare, rmX11_closedShare, rmk, room_1]; omega) (c_sub [3, 4, 5, 6, 0] rfl hJ)
      · refine q_iconst hC dL_law_1487 rfl ?_
        exact q_zret hC dL_law_1488 (by simp only [rmX10_closedShare, rmX11_closedShare, rmk, room_1]; omega) (by simp only [rmX10_closedShare, rmX11_closedShare, rmk, room_1]; omega)
def cl30 (L : Nat) (xs : Nat → Int32) (J : LT) (x1 x2 x3 : Nat) (x4 : Int32) : Sem :=
    sld L xs (x4 + 1) fun v1 =>
    cI SL_closedIf [.ref x1, .int v1, .ref x3] fun v2 =>
    sld L xs (x4 + 1) fun v3 =>
    ob 11 x2 (cI SX11_closedIf [.ref x2, .int v3] fun v4 =>
    ob 11 x2 (cI SX11_thrown [.ref x2] fun v5 =>
    br (v5 = v2)
    (br (v2 = 0)
    (aJ x3 0 fun v6 =>
    br ((lg_cmp v6 (v4.toInt64)) = 0)
    (J x1 x2 x3 (x4 + 6))
    (rZ 0))
    (J x1 x2 x3 (x4 + 6)))
    (rZ 0)))
theorem pcl30 {Γ : CT} (hC : Ctx Γ "SpiritWallLaw" cL_law 9 (some .boolean) room_1) (hnt : NT Γ) (hN : NcA (kS Γ)) {L : Nat} {xs : Nat → Int32} (hX : Scr Γ L xs) (J : LT) {cn sn x1 x2 x3 : Nat} {x4 : Int32} (h1 : cn + 100 ≤ 601024) (h2 : sn + 1000 ≤ 7293034)
    (hJ : Cor Γ 9 (cn + 100) (sn + 1000) 23 [(0, .ref 1900), (1, .ref x1), (2, .ref x2), (3, .ref x3), (4, .int (x4 + 6))] [] (J x1 x2 x3 (x4 + 6))) : Cor Γ 9 cn sn 1492 [(0, .ref 1900), (1, .ref x1), (2, .ref x2), (3, .ref x3), (4, .int x4)] [] (cl30 L xs J x1 x2 x3 x4) := by
  unfold cl30
  refine q_aload_n hC 1 dL_law_1492 rfl rfl ?_
  refine q_aload_n hC 0 dL_law_1493 rfl rfl ?_
  refine q_iload hC 4 dL_law_1494 rfl ?_
  refine q_iconst hC dL_law_1496 rfl ?_
  refine q_iadd hC dL_law_1497 ?_
  refine q_sld hC hX dL_law_1498 (fun v1 => ?_)
  refine q_aload_n hC 3 dL_law_1499 rfl rfl ?_
  refine q_cSXI hC hnt hN (stk := []) (as := [.ref x1, .int v1, .ref x3]) sL_closedIf nL_closedIf (roomOk_of (by simp only [rmL_closedIf, rmX11_closedIf, rmX11_thrown, rmk, room_1]; omega)) w_1643 w_1644 w_1481 w_1645 (Nat.le_of_ble_eq_true rfl) dL_law_1500 rfl (fun v2 => ?_)
  refine q_istoreA hC (loc' := [(5, .int v2), (0, .ref 1900), (1, .ref x1), (2, .ref x2), (3, .ref x3), (4, .int x4)]) dL_law_1503 (Nat.le_of_ble_eq_true rfl) rfl ?_
  refine q_aload_n hC 3 dL_law_1505 rfl rfl ?_
  refine q_aload_n hC 1 dL_law_1506 rfl rfl ?_
  refine q_iload hC 5 dL_law_1507 rfl ?_
  refine q_iconst hC dL_law_1509 rfl ?_
  refine q_iadd hC dL_law_1510 ?_
  refine q_sld hC hX dL_law_1511 (fun v3 => ?_)
  refine q_cVI hC hnt (stk := []) (as := [.int v3]) sX11_closedIf (ci := 11) (by decide) rfl nX11_closedIf (roomOk_of (by simp only [rmL_closedIf, rmX11_closedIf, rmX11_thrown, rmk, room_1]; omega)) w_1639 w_1641 w_1642 w_830 w_1640 (Nat.le_of_ble_eq_true rfl) dL_law_1512 rfl (fun v4 => ?_)
  refine q_istoreA hC (loc' := [(6, .int v4), (5, .int v2), (0, .ref 1900), (1, .ref x1), (2, .ref x2), (3, .ref x3), (4, .int x4)]) dL_law_1515 (Nat.le_of_ble_eq_true rfl) rfl ?_
  refine q_aload_n hC 4 dL_law_1517 rfl rfl ?_
  refine q_cVI hC hnt (stk := []) (as := []) sX11_thrown (ci := 11) (by decide) rfl nX11_thrown (roomOk_of (by simp only [rmL_closedIf, rmX11_closedIf, rmX11_thrown, rmk, room_1]; omega)) w_1475 w_1477 w_1478 w_830 w_1476 (Nat.le_of_ble_eq_true rfl) dL_law_1518 rfl (fun v5 => ?_)
  refine q_iload hC 1 dL_law_1521 rfl ?_
  refine q_ic_eq hC 1528 dL_law_1523 rfl ?_ ?_
  · refine q_iload hC 1 dL_law_1528 rfl ?_
    refine q_if_ne hC 1545 dL_law_1530 rfl ?_ ?_
    · refine q_goto hC 2592 dL_law_1545 rfl ?_
      refine q_iincA hC (loc' := [(4, .int (x4 + 6)), (6, .int v4), (5, .int v2), (0, .ref 1900), (1, .ref x1), (2, .ref x2), (3, .ref x3)]) 6 6 dL_law_2592 rfl rfl (Nat.le_of_ble_eq_true rfl) rfl ?_
      refine q_goto hC 23 dL_law_2595 rfl ?_
      exact c_widen (by simp only [rmL_closedIf, rmX11_closedIf, rmX11_thrown, rmk, room_1]; omega) (by simp only [rmL_closedIf, rmX11_closedIf, rmX11_thrown, rmk, room_1]; omega) (c_sub [3, 4, 5, 6, 0] rfl hJ)
    · refine q_aload_n hC 5 dL_law_1533 rfl rfl ?_
      refine q_iconst hC dL_law_1534 rfl ?_
      refine q_lald hC dL_law_1535 (fun v6 => ?_)
      refine q_iload hC 0 dL_law_1536 rfl ?_
      refine q_i2l hC dL_law_1538 ?_
      refine q_lcmp hC dL_law_1539 ?_
      refine q_if_eq hC 1545 dL_law_1540 rfl ?_ ?_
      · refine q_goto hC 2592 dL_law_1545 rfl ?_
        refine q_iincA hC (loc' := [(4, .int (x4 + 6)), (6, .int v4), (5, .int v2), (0, .ref 1900), (1, .ref x1), (2, .ref x2), (3, .ref x3)]) 6 6 dL_law_2592 rfl rfl (Nat.le_of_ble_eq_true rfl) rfl ?_
        refine q_goto hC 23 dL_law_2595 rfl ?_
        exact c_widen (by simp only [rmL_closedIf, rmX11_closedIf, rmX11_thrown, rmk, room_1]; omega) (by simp only [rmL_closedIf, rmX11_closedIf, rmX11_thrown, rmk, room_1]; omega) (c_sub [3, 4, 5, 6, 0] rfl hJ)
      · refine q_iconst hC dL_law_1543 rfl ?_
        exact q_zret hC dL_law_1544 (by simp only [rmL_closedIf, rmX11_closedIf, rmX11_thrown, rmk, room_1]; omega) (by simp only [rmL_closedIf, rmX11_closedIf, rmX11_thrown, rmk, room_1]; omega)
  · refine q_iconst hC dL_law_1526 rfl ?_
    exact q_zret hC dL_law_1527 (by simp only [rmL_closedIf, rmX11_closedIf, rmX11_thrown, rmk, room_1]; omega) (by simp only [rmL_closedIf, rmX11_closedIf, rmX11_thrown, rmk, room_1]; omega)
def cl31 (L : Nat) (xs : Nat → Int32) (J : LT) (x1 x2 x3 : Nat) (x4 : Int32) : Sem :=
    ob 10 x1 (cI SX10_bestStrike [.ref x1] fun v1 =>
    ob 11 x2 (cI SX11_bestStrike [.ref x2] fun v2 =>
    br (v1 = v2)
    (J x1 x2 x3 (x4 + 6))
    (rZ 0)))
theorem pcl31 {Γ : CT} (hC : Ctx Γ "SpiritWallLaw" cL_law 9 (some .boolean) room_1) (hnt : NT Γ) (hN : NcA (kS Γ)) {L : Nat} {xs : Nat → Int32} (hX : Scr Γ L xs) (J : LT) {cn sn x1 x2 x3 : Nat} {x4 : Int32} (h1 : cn + 100 ≤ 601024) (h2 : sn + 1000 ≤ 7293034)
    (hJ : Cor Γ 9 (cn + 100) (sn + 1000) 23 [(0, .ref 1900), (1, .ref x1), (2, .ref x2), (3, .ref x3), (4, .int (x4 + 6))] [] (J x1 x2 x3 (x4 + 6))) : Cor Γ 9 cn sn 1548 [(0, .ref 1900), (1, .ref x1), (2, .ref x2), (3, .ref x3), (4, .int x4)] [] (cl31 L xs J x1 x2 x3 x4) := by
  unfold cl31
  refine q_aload_n hC 1 dL_law_1548 rfl rfl ?_
  refine q_cVI hC hnt (stk := []) (as := []) sX10_bestStrike (ci := 10) (by decide) rfl nX10_bestStrike (roomOk_of (by simp only [rmX10_bestStrike, rmX11_bestStrike, rmk, room_1]; omega)) w_1646 w_1648 w_1649 w_27 w_1647 (Nat.le_of_ble_eq_true rfl) dL_law_1549 rfl (fun v1 => ?_)
  refine q_aload_n hC 2 dL_law_1552 rfl rfl ?_
  refine q_cVI hC hnt (stk := [.int v1]) (as := []) sX11_bestStrike (ci := 11) (by decide) rfl nX11_bestStrike (roomOk_of (by simp only [rmX10_bestStrike, rmX11_bestStrike, rmk, room_1]; omega)) w_1650 w_1652 w_1653 w_830 w_1651 (Nat.le_of_ble_eq_true rfl) dL_law_1553 rfl (fun v2 => ?_)
  refine q_ic_eq hC 2592 dL_law_1556 rfl ?_ ?_
  · refine q_iincA hC (loc' := [(4, .int (x4 + 6)), (0, .ref 1900), (1, .ref x1), (2, .ref x2), (3, .ref x3)]) 4 6 dL_law_2592 rfl rfl (Nat.le_of_ble_eq_true rfl) rfl ?_
    refine q_goto hC 23 dL_law_2595 rfl ?_
    exact c_widen (by simp only [rmX10_bestStrike, rmX11_bestStrike, rmk, room_1]; omega) (by simp only [rmX10_bestStrike, rmX11_bestStrike, rmk, room_1]; omega) (c_sub [1, 2, 3, 4, 0] rfl hJ)
  · refine q_iconst hC dL_law_1559 rfl ?_
    exact q_zret hC dL_law_1560 (by simp only [rmX10_bestStrike, rmX11_bestStrike, rmk, room_1]; omega) (by simp only [rmX10_bestStrike, rmX11_bestStrike, rmk, room_1]; omega)
def cl32 (L : Nat) (xs : Nat → Int32) (J : LT) (x1 x2 x3 : Nat) (x4 : Int32) : Sem :=
    sld L xs (x4 + 1) fun v1 =>
    cI SL_errorWith [.ref x1, .int v1, .ref x3] fun v2 =>
    sld L xs (x4 + 1) fun v3 =>
    ob 11 x2 (cI SX11_errorWith [.ref x2, .int v3] fun v4 =>
    ob 11 x2 (cI SX11_thrown [.ref x2] fun v5 =>
    br (v5 = v2)
    (br (v2 = 0)
    (aJ x3 0 fun v6 =>
    br ((lg_cmp v6 (v4.toInt64)) = 0)
    (J x1 x2 x3 (x4 + 6))
    (rZ 0))
    (J x1 x2 x3 (x4 + 6)))
    (rZ 0)))
theorem pcl32 {Γ : CT} (hC : Ctx Γ "SpiritWallLaw" cL_law 9 (some .boolean) room_1) (hnt : NT Γ) (hN : NcA (kS Γ)) {L : Nat} {xs : Nat → Int32} (hX : Scr Γ L xs) (J : LT) {cn sn x1 x2 x3 : Nat} {x4 : Int32} (h1 : cn + 100 ≤ 601024) (h2 : sn + 1000 ≤ 7293034)
    (hJ : Cor Γ 9 (cn + 100) (sn + 1000) 23 [(0, .ref 1900), (1, .ref x1), (2, .ref x2), (3, .ref x3), (4, .int (x4 + 6))] [] (J x1 x2 x3 (x4 + 6))) : Cor Γ 9 cn sn 1561 [(0, .ref 1900), (1, .ref x1), (2, .ref x2), (3, .ref x3), (4, .int x4)] [] (cl32 L xs J x1 x2 x3 x4) := by
  unfold cl32
  refine q_aload_n hC 1 dL_law_1561 rfl rfl ?_
  refine q_aload_n hC 0 dL_law_1562 rfl rfl ?_
  refine q_iload hC 4 dL_law_1563 rfl ?_
  refine q_iconst hC dL_law_1565 rfl ?_
  refine q_iadd hC dL_law_1566 ?_
  refine q_sld hC hX dL_law_1567 (fun v1 => ?_)
  refine q_aload_n hC 3 dL_law_1568 rfl rfl ?_
  refine q_cSXI hC hnt hN (stk := []) (as := [.ref x1, .int v1, .ref x3]) sL_errorWith nL_errorWith (roomOk_of (by simp only [rmL_errorWith, rmX11_errorWith, rmX11_thrown, rmk, room_1]; omega)) w_1658 w_1659 w_1481 w_1660 (Nat.le_of_ble_eq_true rfl) dL_law_1569 rfl (fun v2 => ?_)
  refine q_istoreA hC (loc' := [(5, .int v2), (0, .ref 1900), (1, .ref x1), (2, .ref x2), (3, .ref x3), (4, .int x4)]) dL_law_1572 (Nat.le_of_ble_eq_true rfl) rfl ?_
  refine q_aload_n hC 3 dL_law_1574 rfl rfl ?_
  refine q_aload_n hC 1 dL_law_1575 rfl rfl ?_
  refine q_iload hC 5 dL_law_1576 rfl ?_
  refine q_iconst hC dL_law_1578 rfl ?_
  refine q_iadd hC dL_law_1579 ?_
  refine q_sld hC hX dL_law_1580 (fun v3 => ?_)
  refine q_cVI hC hnt (stk := []) (as := [.int v3]) sX11_errorWith (ci := 11) (by decide) rfl nX11_errorWith (roomOk_of (by simp only [rmL_errorWith, rmX11_errorWith, rmX11_thrown, rmk, room_1]; omega)) w_1654 w_1656 w_1657 w_830 w_1655 (Nat.le_of_ble_eq_true rfl) dL_law_1581 rfl (fun v4 => ?_)
  refine q_istoreA hC (loc' := [(6, .int v4), (5, .int v2), (0, .ref 1900), (1, .ref x1), (2, .ref x2), (3, .ref x3), (4, .int x4)]) dL_law_1584 (Nat.le_of_ble_eq_true rfl) rfl ?_
  refine q_aload_n hC 4 dL_law_1586 rfl rfl ?_
  refine q_cVI hC hnt (stk := []) (as := []) sX11_thrown (ci := 11) (by decide) rfl nX11_thrown (roomOk_of (by simp only [rmL_errorWith, rmX11_errorWith, rmX11_thrown, rmk, room_1]; omega)) w_1475 w_1477 w_1478 w_830 w_1476 (Nat.le_of_ble_eq_true rfl) dL_law_1587 rfl (fun v5 => ?_)
  refine q_iload hC 1 dL_law_1590 rfl ?_
  refine q_ic_eq hC 1597 dL_law_1592 rfl ?_ ?_
  · refine q_iload hC 1 dL_law_1597 rfl ?_
    refine q_if_ne hC 1614 dL_law_1599 rfl ?_ ?_
    · refine q_goto hC 2592 dL_law_1614 rfl ?_
      refine q_iincA hC (loc' := [(4, .int (x4 + 6)), (6, .int v4), (5, .int v2), (0, .ref 1900), (1, .ref x1), (2, .ref x2), (3, .ref x3)]) 6 6 dL_law_2592 rfl rfl (Nat.le_of_ble_eq_true rfl) rfl ?_
      refine q_goto hC 23 dL_law_2595 rfl ?_
      exact c_widen (by simp only [rmL_errorWith, rmX11_errorWith, rmX11_thrown, rmk, room_1]; omega) (by simp only [rmL_errorWith, rmX11_errorWith, rmX11_thrown, rmk, room_1]; omega) (c_sub [3, 4, 5, 6, 0] rfl hJ)
    · refine q_aload_n hC 5 dL_law_1602 rfl rfl ?_
      refine q_iconst hC dL_law_1603 rfl ?_
      refine q_lald hC dL_law_1604 (fun v6 => ?_)
      refine q_iload hC 0 dL_law_1605 rfl ?_
      refine q_i2l hC dL_law_1607 ?_
      refine q_lcmp hC dL_law_1608 ?_
      refine q_if_eq hC 1614 dL_law_1609 rfl ?_ ?_
      · refine q_goto hC 2592 dL_law_1614 rfl ?_
        refine q_iincA hC (loc' := [(4, .int (x4 + 6)), (6, .int v4), (5, .int v2), (0, .ref 1900), (1, .ref x1), (2, .ref x2), (3, .ref x3)]) 6 6 dL_law_2592 rfl rfl (Nat.le_of_ble_eq_true rfl) rfl ?_
        refine q_goto hC 23 dL_law_2595 rfl ?_
        exact c_widen (by simp only [rmL_errorWith, rmX11_errorWith, rmX11_thrown, rmk, room_1]; omega) (by simp only [rmL_errorWith, rmX11_errorWith, rmX11_thrown, rmk, room_1]; omega) (c_sub [3, 4, 5, 6, 0] rfl hJ)
      · refine q_iconst hC dL_law_1612 rfl ?_
        exact q_zret hC dL_law_1613 (by simp only [rmL_errorWith, rmX11_errorWith, rmX11_thrown, rmk, room_1]; omega) (by simp only [rmL_errorWith, rmX11_errorWith, rmX11_thrown, rmk, room_1]; omega)
  · refine q_iconst hC dL_law_1595 rfl ?_
    exact q_zret hC dL_law_1596 (by simp only [rmL_errorWith, rmX11_errorWith, rmX11_thrown, rmk, room_1]; omega) (by simp only [rmL_errorWith, rmX11_errorWith, rmX11_thrown, rmk, room_1]; omega)
def cl33 (L : Nat) (xs : Nat → Int32) (J : LT) (x1 x2 x3 : Nat) (x4 : Int32) : Sem :=
    sld L xs (x4 + 1) fun v1 =>
    cI SL_misfitAfter [.ref x1, .int v1, .ref x3] fun v2 =>
    sld L xs (x4 + 1) fun v3 =>
    ob 11 x2 (cJ SX11_misfitAfter [.ref x2, .int v3] fun v4 =>
    ob 11 x2 (cI SX11_thrown [.ref x2] fun v5 =>
    br (v5 = v2)
    (br (v2 = 0)
    (aJ x3 0 fun v6 =>
    br ((lg_cmp v6 v4) = 0)
    (J x1 x2 x3 (x4 + 6))
    (rZ 0))
    (J x1 x2 x3 (x4 + 6)))
    (rZ 0)))
theorem pcl33 {Γ : CT} (hC : Ctx Γ "SpiritWallLaw" cL_law 9 (some .boolean) room_1) (hnt : NT Γ) (hN : NcA (kS Γ)) {L : Nat} {xs : Nat → Int32} (hX : Scr Γ L xs) (J : LT) {cn sn x1 x2 x3 : Nat} {x4 : Int32} (h1 : cn + 100 ≤ 601024) (h2 : sn + 1000 ≤ 7293034)
    (hJ : Cor Γ 9 (cn + 100) (sn + 1000) 23 [(0, .ref 1900), (1, .ref x1), (2, .ref x2), (3, .ref x3), (4, .int (x4 + 6))] [] (J x1 x2 x3 (x4 + 6))) : Cor Γ 9 cn sn 1617 [(0, .ref 1900), (1, .ref x1), (2, .ref x2), (3, .ref x3), (4, .int x4)] [] (cl33 L xs J x1 x2 x3 x4) := by
  unfold cl33
  refine q_aload_n hC 1 dL_law_1617 rfl rfl ?_
  refine q_aload_n hC 0 dL_law_1618 rfl rfl ?_
  refine q_iload hC 4 dL_law_1619 rfl ?_
  refine q_iconst hC dL_law_1621 rfl ?_
  refine q_iadd hC dL_law_1622 ?_
  refine q_sld hC hX dL_law_1623 (fun v1 => ?_)
  refine q_aload_n hC 3 dL_law_1624 rfl rfl ?_
  refine q_cSXI hC hnt hN (stk := []) (as := [.ref x1, .int v1, .ref x3]) sL_misfitAfter nL_misfitAfter (roomOk_of (by simp only [rmL_misfitAfter, rmX11_misfitAfter, rmX11_thrown, rmk, room_1]; omega)) w_1665 w_1666 w_1481 w_1667 (Nat.le_of_ble_eq_true rfl) dL_law_1625 rfl (fun v2 => ?_)
  refine q_istoreA hC (loc' := [(5, .int v2), (0, .ref 1900), (1, .ref x1), (2, .ref x2), (3, .ref x3), (4, .int x4)]) dL_law_1628 (Nat.le_of_ble_eq_true rfl) rfl ?_
  refine q_aload_n hC 3 dL_law_1630 rfl rfl ?_
  refine q_aload_n hC 1 dL_law_1631 rfl rfl ?_
  refine q_iload hC 5 dL_law_1632 rfl ?_
  refine q_iconst hC dL_law_1634 rfl ?_
  refine q_iadd hC dL_law_1635 ?_
  refine q_sld hC hX dL_law_1636 (fun v3 => ?_)
  refine q_cVJ hC hnt (stk := []) (as := [.int v3]) sX11_misfitAfter (ci := 11) (by decide) rfl nX11_misfitAfter (roomOk_of (by simp only [rmL_misfitAfter, rmX11_misfitAfter, rmX11_thrown, rmk, room_1]; omega)) w_1661 w_1663 w_1664 w_830 w_1662 (Nat.le_of_ble_eq_true rfl) dL_law_1637 rfl (fun v4 => ?_)
  refine q_lstoreA hC (loc' := [(6, .long v4), (5, .int v2), (0, .ref 1900), (1, .ref x1), (2, .ref x2), (3, .ref x3), (4, .int x4)]) dL_law_1640 (Nat.le_of_ble_eq_true rfl) rfl ?_
  refine q_aload_n hC 4 dL_law_1642 rfl rfl ?_
  refine q_cVI hC hnt (stk := []) (as := []) sX11_thrown (ci := 11) (by decide) rfl nX11_thrown (roomOk_of (by simp only [rmL_misfitAfter, rmX11_misfitAfter, rmX11_thrown, rmk, room_1]; omega)) w_1475 w_1477 w_1478 w_830 w_1476 (Nat.le_of_ble_eq_true rfl) dL_law_1643 rfl (fun v5 => ?_)
  refine q_iload hC 1 dL_law_1646 rfl ?_
  refine q_ic_eq hC 1653 dL_law_1648 rfl ?_ ?_
  · refine q_iload hC 1 dL_law_1653 rfl ?_
    refine q_if_ne hC 1669 dL_law_1655 rfl ?_ ?_
    · refine q_goto hC 2592 dL_law_1669 rfl ?_
      refine q_iincA hC (loc' := [(4, .int (x4 + 6)), (6, .long v4), (5, .int v2), (0, .ref 1900), (1, .ref x1), (2, .ref x2), (3, .ref x3)]) 6 6 dL_law_2592 rfl rfl (Nat.le_of_ble_eq_true rfl) rfl ?_
      refine q_goto hC 23 dL_law_2595 rfl ?_
      exact c_widen (by simp only [rmL_misfitAfter, rmX11_misfitAfter, rmX11_thrown, rmk, room_1]; omega) (by simp only [rmL_misfitAfter, rmX11_misfitAfter, rmX11_thrown, rmk, room_1]; omega) (c_sub [3, 4, 5, 6, 0] rfl hJ)
    · refine q_aload_n hC 5 dL_law_1658 rfl rfl ?_
      refine q_iconst hC dL_law_1659 rfl ?_
      refine q_lald hC dL_law_1660 (fun v6 => ?_)
      refine q_lload hC 0 dL_law_1661 rfl ?_
      refine q_lcmp hC dL_law_1663 ?_
      refine q_if_eq hC 1669 dL_law_1664 rfl ?_ ?_
      · refine q_goto hC 2592 dL_law_1669 rfl ?_
        refine q_iincA hC (loc' := [(4, .int (x4 + 6)), (6, .long v4), (5, .int v2), (0, .ref 1900), (1, .ref x1), (2, .ref x2), (3, .ref x3)]) 6 6 dL_law_2592 rfl rfl (Nat.le_of_ble_eq_true rfl) rfl ?_
        refine q_goto hC 23 dL_law_2595 rfl ?_
        exact c_widen (by simp only [rmL_misfitAfter, rmX11_misfitAfter, rmX11_thrown, rmk, room_1]; omega) (by simp only [rmL_misfitAfter, rmX11_misfitAfter, rmX11_thrown, rmk, room_1]; omega) (c_sub [3, 4, 5, 6, 0] rfl hJ)
      · refine q_iconst hC dL_law_1667 rfl ?_
        exact q_zret hC dL_law_1668 (by simp only [rmL_misfitAfter, rmX11_misfitAfter, rmX11_thrown, rmk, room_1]; omega) (by simp only [rmL_misfitAfter, rmX11_misfitAfter, rmX11_thrown, rmk, room_1]; omega)
  · refine q_iconst hC dL_law_1651 rfl ?_
    exact q_zret hC dL_law_1652 (by simp only [rmL_misfitAfter, rmX11_misfitAfter, rmX11_thrown, rmk, room_1]; omega) (by simp only [rmL_misfitAfter, rmX11_misfitAfter, rmX11_thrown, rmk, room_1]; omega)
def cl34 (L : Nat) (xs : Nat → Int32) (J : LT) (x1 x2 x3 : Nat) (x4 : Int32) : Sem :=
    sld L xs (x4 + 1) fun v1 =>
    cI SL_heightIf [.ref x1, .int v1, .ref x3] fun v2 =>
    sld L xs (x4 + 1) fun v3 =>
    ob 11 x2 (cI SX11_heightIf [.ref x2, .int v3] fun v4 =>
    ob 11 x2 (cI SX11_thrown [.ref x2] fun v5 =>
    br (v5 = v2)
    (br (v2 = 0)
    (aJ x3 0 fun v6 =>
    br ((lg_cmp v6 (v4.toInt64)) = 0)
    (J x1 x2 x3 (x4 + 6))
    (rZ 0))
    (J x1 x2 x3 (x4 + 6)))
    (rZ 0)))
theorem pcl34 {Γ : CT} (hC : Ctx Γ "SpiritWallLaw" cL_law 9 (some .boolean) room_1) (hnt : NT Γ) (hN : NcA (kS Γ)) {L : Nat} {xs : Nat → Int32} (hX : Scr Γ L xs) (J : LT) {cn sn x1 x2 x3 : Nat} {x4 : Int32} (h1 : cn + 100 ≤ 601024) (h2 : sn + 1000 ≤ 7293034)
    (hJ : Cor Γ 9 (cn + 100) (sn + 1000) 23 [(0, .ref 1900), (1, .ref x1), (2, .ref x2), (3, .ref x3), (4, .int (x4 + 6))] [] (J x1 x2 x3 (x4 + 6))) : Cor Γ 9 cn sn 1672 [(0, .ref 1900), (1, .ref x1), (2, .ref x2), (3, .ref x3), (4, .int x4)] [] (cl34 L xs J x1 x2 x3 x4) := by
  unfold cl34
  refine q_aload_n hC 1 dL_law_1672 rfl rfl ?_
  refine q_aload_n hC 0 dL_law_1673 rfl rfl ?_
  refine q_iload hC 4 dL_law_1674 rfl ?_
  refine q_iconst hC dL_law_1676 rfl ?_
  refine q_iadd hC dL_law_1677 ?_
  refine q_sld hC hX dL_law_1678 (fun v1 => ?_)
  refine q_aload_n hC 3 dL_law_1679 rfl rfl ?_
  refine q_cSXI hC hnt hN (stk := []) (as := [.ref x1, .int v1, .ref x3]) sL_heightIf nL_heightIf (roomOk_of (by simp only [rmL_heightIf, rmX11_heightIf, rmX11_thrown, rmk, room_1]; omega)) w_1672 w_1673 w_1481 w_1674 (Nat.le_of_ble_eq_true rfl) dL_law_1680 rfl (fun v2 => ?_)
  refine q_istoreA hC (loc' := [(5, .int v2), (0, .ref 1900), (1, .ref x1), (2, .ref x2), (3, .ref x3), (4, .int x4)]) dL_law_1683 (Nat.le_of_ble_eq_true rfl) rfl ?_
  refine q_aload_n hC 3 dL_law_1685 rfl rfl ?_
  refine q_aload_n hC 1 dL_law_1686 rfl rfl ?_
  refine q_iload hC 5 dL_law_1687 rfl ?_
  refine q_iconst hC dL_law_1689 rfl ?_
  refine q_iadd hC dL_law_1690 ?_
  refine q_sld hC hX dL_law_1691 (fun v3 => ?_)
  refine q_cVI hC hnt (stk := []) (as := [.int v3]) sX11_heightIf (ci := 11) (by decide) rfl nX11_heightIf (roomOk_of (by simp only [rmL_heightIf, rmX11_heightIf, rmX11_thrown, rmk, room_1]; omega)) w_1668 w_1670 w_1671 w_830 w_1669 (Nat.le_of_ble_eq_true rfl) dL_law_1692 rfl (fun v4 => ?_)
  refine q_istoreA hC (loc' := [(6, .int v4), (5, .int v2), (0, .ref 1900), (1, .ref x1), (2, .ref x2), (3, .ref x3), (4, .int x4)]) dL_law_1695 (Nat.le_of_ble_eq_true rfl) rfl ?_
  refine q_aload_n hC 4 dL_law_1697 rfl rfl ?_
  refine q_cVI hC hnt (stk := []) (as := []) sX11_thrown (ci := 11) (by decide) rfl nX11_thrown (roomOk_of (by simp only [rmL_heightIf, rmX11_heightIf, rmX11_thrown, rmk, room_1]; omega)) w_1475 w_1477 w_1478 w_830 w_1476 (Nat.le_of_ble_eq_true rfl) dL_law_1698 rfl (fun v5 => ?_)
  refine q_iload hC 1 dL_law_1701 rfl ?_
  refine q_ic_eq hC 1708 dL_law_1703 rfl ?_ ?_
  · refine q_iload hC 1 dL_law_1708 rfl ?_
    refine q_if_ne hC 1725 dL_law_1710 rfl ?_ ?_
    · refine q_goto hC 2592 dL_law_1725 rfl ?_
      refine q_iincA hC (loc' := [(4, .int (x4 + 6)), (6, .int v4), (5, .int v2), (0, .ref 1900), (1, .ref x1), (2, .ref x2), (3, .ref x3)]) 6 6 dL_law_2592 rfl rfl (Nat.le_of_ble_eq_true rfl) rfl ?_
      refine q_goto hC 23 dL_law_2595 rfl ?_
      exact c_widen (by simp only [rmL_heightIf, rmX11_heightIf, rmX11_thrown, rmk, room_1]; omega) (by simp only [rmL_heightIf, rmX11_heightIf, rmX11_thrown, rmk, room_1]; omega) (c_sub [3, 4, 5, 6, 0] rfl hJ)
    · refine q_aload_n hC 5 dL_law_1713 rfl rfl ?_
      refine q_iconst hC dL_law_1714 rfl ?_
      refine q_lald hC dL_law_1715 (fun v6 => ?_)
      refine q_iload hC 0 dL_law_1716 rfl ?_
      refine q_i2l hC dL_law_1718 ?_
      refine q_lcmp hC dL_law_1719 ?_
      refine q_if_eq hC 1725 dL_law_1720 rfl ?_ ?_
      · refine q_goto hC 2592 dL_law_1725 rfl ?_
        refine q_iincA hC (loc' := [(4, .int (x4 + 6)), (6, .int v4), (5, .int v2), (0, .ref 1900), (1, .ref x1), (2, .ref x2), (3, .ref x3)]) 6 6 dL_law_2592 rfl rfl (Nat.le_of_ble_eq_true rfl) rfl ?_
        refine q_goto hC 23 dL_law_2595 rfl ?_
        exact c_widen (by simp only [rmL_heightIf, rmX11_heightIf, rmX11_thrown, rmk, room_1]; omega) (by simp only [rmL_heightIf, rmX11_heightIf, rmX11_thrown, rmk, room_1]; omega) (c_sub [3, 4, 5, 6, 0] rfl hJ)
      · refine q_iconst hC dL_law_1723 rfl ?_
        exact q_zret hC dL_law_1724 (by simp only [rmL_heightIf, rmX11_heightIf, rmX11_thrown, rmk, room_1]; omega) (by simp only [rmL_heightIf, rmX11_heightIf, rmX11_thrown, rmk, room_1]; omega)
  · refine q_iconst hC dL_law_1706 rfl ?_
    exact q_zret hC dL_law_1707 (by simp only [rmL_heightIf, rmX11_heightIf, rmX11_thrown, rmk, room_1]; omega) (by simp only [rmL_heightIf, rmX11_heightIf, rmX11_thrown, rmk, room_1]; omega)
def cl35 (L : Nat) (xs : Nat → Int32) (J : LT) (x1 x2 x3 : Nat) (x4 : Int32) : Sem :=
    ob 10 x1 (cI SX10_leastLimit [.ref x1] fun v1 =>
    ob 11 x2 (cI SX11_leastLimit [.ref x2] fun v2 =>
    br (v1 = v2)
    (J x1 x2 x3 (x4 + 6))
    (rZ 0)))
theorem pcl35 {Γ : CT} (hC : Ctx Γ "SpiritWallLaw" cL_law 9 (some .boolean) room_1) (hnt : NT Γ) (hN : NcA (kS Γ)) {L : Nat} {xs : Nat → Int32} (hX : Scr Γ L xs) (J : LT) {cn sn x1 x2 x3 : Nat} {x4 : Int32} (h1 : cn + 100 ≤ 601024) (h2 : sn + 1000 ≤ 7293034)
    (hJ : Cor Γ 9 (cn + 100) (sn + 1000) 23 [(0, .ref 1900), (1, .ref x1), (2, .ref x2), (3, .ref x3), (4, .int (x4 + 6))] [] (J x1 x2 x3 (x4 + 6))) : Cor Γ 9 cn sn 1728 [(0, .ref 1900), (1, .ref x1), (2, .ref x2), (3, .ref x3), (4, .int x4)] [] (cl35 L xs J x1 x2 x3 x4) := by
  unfold cl35
  refine q_aload_n hC 1 dL_law_1728 rfl rfl ?_
  refine q_cVI hC hnt (stk := []) (as := []) sX10_leastLimit (ci := 10) (by decide) rfl nX10_leastLimit (roomOk_of (by simp only [rmX10_leastLimit, rmX11_leastLimit, rmk, room_1]; omega)) w_1675 w_1677 w_1678 w_27 w_1676 (Nat.le_of_ble_eq_true rfl) dL_law_1729 rfl (fun v1 => ?_)
  refine q_aload_n hC 2 dL_law_1732 rfl rfl ?_
  refine q_cVI hC hnt (stk := [.int v1]) (as := []) sX11_leastLimit (ci := 11) (by decide) rfl nX11_leastLimit (roomOk_of (by simp only [rmX10_leastLimit, rmX11_leastLimit, rmk, room_1]; omega)) w_1679 w_1681 w_1682 w_830 w_1680 (Nat.le_of_ble_eq_true rfl) dL_law_1733 rfl (fun v2 => ?_)
  refine q_ic_eq hC 2592 dL_law_1736 rfl ?_ ?_
  · refine q_iincA hC (loc' := [(4, .int (x4 + 6)), (0, .ref 1900), (1, .ref x1), (2, .ref x2), (3, .ref x3)]) 4 6 dL_law_2592 rfl rfl (Nat.le_of_ble_eq_true rfl) rfl ?_
    refine q_goto hC 23 dL_law_2595 rfl ?_
    exact c_widen (by simp only [rmX10_leastLimit, rmX11_leastLimit, rmk, room_1]; omega) (by simp only [rmX10_leastLimit, rmX11_leastLimit, rmk, room_1]; omega) (c_sub [1, 2, 3, 4, 0] rfl hJ)
  · refine q_iconst hC dL_law_1739 rfl ?_
    exact q_zret hC dL_law_1740 (by simp only [rmX10_leastLimit, rmX11_leastLimit, rmk, room_1]; omega) (by simp only [rmX10_leastLimit, rmX11_leastLimit, rmk, room_1]; omega)
def cl36 (L : Nat) (xs : Nat → Int32) (J : LT) (x1 x2 x3 : Nat) (x4 : Int32) : Sem :=
    sld L xs (x4 + 1) fun v1 =>
    sld L xs (x4 + 2) fun v2 =>
    sld L xs (x4 + 3) fun v3 =>
    sld L xs (x4 + 4) fun v4 =>
    sld L xs (x4 + 5) fun v5 =>
    cI SL_addSight [.ref x1, .int v1, .int v2, .int v3, .int v4, .int v5, .ref x3] fun v6 =>
    sld L xs (x4 + 1) fun v7 =>
    sld L xs (x4 + 2) fun v8 =>
    sld L xs (x4 + 3) fun v9 =>
    sld L xs (x4 + 4) fun v10 =>
    sld L xs (x4 + 5) fun v11 =>
    ob 11 x2 (cI SX11_addSight [.ref x2, .int v7, .int v8, .int v9, .int v10, .int v11] fun v12 =>
    ob 11 x2 (cI SX11_thrown [.ref x2] fun v13 =>
    br (v13 = v6)
    (br (v6 = 0)
    (aJ x3 0 fun v14 =>
    br ((lg_cmp v14 (v12.toInt64)) = 0)
    (J x1 x2 x3 (x4 + 6))
    (rZ 0))
    (J x1 x2 x3 (x4 + 6)))
    (rZ 0)))
theorem pcl36 {Γ : CT} (hC : Ctx Γ "SpiritWallLaw" cL_law 9 (some .boolean) room_1) (hnt : NT Γ) (hN : NcA (kS Γ)) {L : Nat} {xs : Nat → Int32} (hX : Scr Γ L xs) (J : LT) {cn sn x1 x2 x3 : Nat} {x4 : Int32} (h1 : cn + 100 ≤ 601024) (h2 : sn + 1000 ≤ 7293034)
    (hJ : Cor Γ 9 (cn + 100) (sn + 1000) 23 [(0, .ref 1900), (1, .ref x1), (2, .ref x2), (3, .ref x3), (4, .int (x4 + 6))] [] (J x1 x2 x3 (x4 + 6))) : Cor Γ 9 cn sn 1741 [(0, .ref 1900), (1, .ref x1), (2, .ref x2), (3, .ref x3), (4, .int x4)] [] (cl36 L xs J x1 x2 x3 x4) := by
  unfold cl36
  refine q_aload_n hC 1 dL_law_1741 rfl rfl ?_
  refine q_aload_n hC 0 dL_law_1742 rfl rfl ?_
  refine q_iload hC 4 dL_law_1743 rfl ?_
  refine q_iconst hC dL_law_1745 rfl ?_
  refine q_iadd hC dL_law_1746 ?_
  refine q_sld hC hX dL_law_1747 (fun v1 => ?_)
  refine q_aload_n hC 0 dL_law_1748 rfl rfl ?_
  refine q_iload hC 4 dL_law_1749 rfl ?_
  refine q_iconst hC dL_law_1751 rfl ?_
  refine q_iadd hC dL_law_1752 ?_
  refine q_sld hC hX dL_law_1753 (fun v2 => ?_)
  refine q_aload_n hC 0 dL_law_1754 rfl rfl ?_
  refine q_iload hC 4 dL_law_1755 rfl ?_
  refine q_iconst hC dL_law_1757 rfl ?_
  refine q_iadd hC dL_law_1758 ?_
  refine q_sld hC hX dL_law_1759 (fun v3 => ?_)
  refine q_aload_n hC 0 dL_law_1760 rfl rfl ?_
  refine q_iload hC 4 dL_law_1761 rfl ?_
  refine q_iconst hC dL_law_1763 rfl ?_
  refine q_iadd hC dL_law_1764 ?_
  refine q_sld hC hX dL_law_1765 (fun v4 => ?_)
  refine q_aload_n hC 0 dL_law_1766 rfl rfl ?_
  refine q_iload hC 4 dL_law_1767 rfl ?_
  refine q_iconst hC dL_law_1769 rfl ?_
  refine q_iadd hC dL_law_1770 ?_
  refine q_sld hC hX dL_law_1771 (fun v5 => ?_)
  refine q_aload_n hC 3 dL_law_1772 rfl rfl ?_
  refine q_cSXI hC hnt hN (stk := []) (as := [.ref x1, .int v1, .int v2, .int v3, .int v4, .int v5, .ref x3]) sL_addSight nL_addSight (roomOk_of (by simp only [rmL_addSight, rmX11_addSight, rmX11_thrown, rmk, room_1]; omega)) w_1687 w_1688 w_1481 w_1689 (Nat.le_of_ble_eq_true rfl) dL_law_1773 rfl (fun v6 => ?_)
  refine q_istoreA hC (loc' := [(5, .int v6), (0, .ref 1900), (1, .ref x1), (2, .ref x2), (3, .ref x3), (4, .int x4)]) dL_law_1776 (Nat.le_of_ble_eq_true rfl) rfl ?_
  refine q_aload_n hC 3 dL_law_1778 rfl rfl ?_
  refine q_aload_n hC 1 dL_law_1779 rfl rfl ?_
  refine q_iload hC 5 dL_law_1780 rfl ?_
  refine q_iconst hC dL_law_1782 rfl ?_
  refine q_iadd hC dL_law_1783 ?_
  refine q_sld hC hX dL_law_1784 (fun v7 => ?_)
  refine q_aload_n hC 1 dL_law_1785 rfl rfl ?_
  refine q_iload hC 5 dL_law_1786 rfl ?_
  refine q_iconst hC dL_law_1788 rfl ?_
  refine q_iadd hC dL_law_1789 ?_
  refine q_sld hC hX dL_law_1790 (fun v8 => ?_)
  refine q_aload_n hC 1 dL_law_1791 rfl rfl ?_
  refine q_iload hC 5 dL_law_1792 rfl ?_
  refine q_iconst hC dL_law_1794 rfl ?_
  refine q_iadd hC dL_law_1795 ?_
  refine q_sld hC hX dL_law_1796 (fun v9 => ?_)
  refine q_aload_n hC 1 dL_law_1797 rfl rfl ?_
  refine q_iload hC 5 dL_law_1798 rfl ?_
  refine q_iconst hC dL_law_1800 rfl ?_
  refine q_iadd hC dL_law_1801 ?_
  refine q_sld hC hX dL_law_1802 (fun v10 => ?_)
  refine q_aload_n hC 1 dL_law_1803 rfl rfl ?_
  refine q_iload hC 5 dL_law_1804 rfl ?_
  refine q_iconst hC dL_law_1806 rfl ?_
  refine q_iadd hC dL_law_1807 ?_
  refine q_sld hC hX dL_law_1808 (fun v11 => ?_)
  refine q_cVI hC hnt (stk := []) (as := [.int v7, .int v8, .int v9, .int v10, .int v11]) sX11_addSight (ci := 11) (by decide) rfl nX11_addSight (roomOk_of (by simp only [rmL_addSight, rmX11_addSight, rmX11_thrown, rmk, room_1]; omega)) w_1683 w_1685 w_1686 w_830 w_1684 (Nat.le_of_ble_eq_true rfl) dL_law_1809 rfl (fun v12 => ?_)
  refine q_istoreA hC (loc' := [(6, .int v12), (5, .int v6), (0, .ref 1900), (1, .ref x1), (2, .ref x2), (3, .ref x3), (4, .int x4)]) dL_law_1812 (Nat.le_of_ble_eq_true rfl) rfl ?_
  refine q_aload_n hC 4 dL_law_1814 rfl rfl ?_
  refine q_cVI hC hnt (stk := []) (as := []) sX11_thrown (ci := 11) (by decide) rfl nX11_thrown (roomOk_of (by simp only [rmL_addSight, rmX11_addSight, rmX11_thrown, rmk, room_1]; omega)) w_1475 w_1477 w_1478 w_830 w_1476 (Nat.le_of_ble_eq_true rfl) dL_law_1815 rfl (fun v13 => ?_)
  refine q_iload hC 1 dL_law_1818 rfl ?_
  refine q_ic_eq hC 1825 dL_law_1820 rfl ?_ ?_
  · refine q_iload hC 1 dL_law_1825 rfl ?_
    refine q_if_ne hC 1842 dL_law_1827 rfl ?_ ?_
    · refine q_goto hC 2592 dL_law_1842 rfl ?_
      refine q_iincA hC (loc' := [(4, .int (x4 + 6)), (6, .int v12), (5, .int v6), (0, .ref 1900), (1, .ref x1), (2, .ref x2), (3, .ref x3)]) 6 6 dL_law_2592 rfl rfl (Nat.le_of_ble_eq_true rfl) rfl ?_
      refine q_goto hC 23 dL_law_2595 rfl ?_
      exact c_widen (by simp only [rmL_addSight, rmX11_addSight, rmX11_thrown, rmk, room_1]; omega) (by simp only [rmL_addSight, rmX11_addSight, rmX11_thrown, rmk, room_1]; omega) (c_sub [3, 4, 5, 6, 0] rfl hJ)
    · refine q_aload_n hC 5 dL_law_1830 rfl rfl ?_
      refine q_iconst hC dL_law_1831 rfl ?_
      refine q_lald hC dL_law_1832 (fun v14 => ?_)
      refine q_iload hC 0 dL_law_1833 rfl ?_
      refine q_i2l hC dL_law_1835 ?_
      refine q_lcmp hC dL_law_1836 ?_
      refine q_if_eq hC 1842 dL_law_1837 rfl ?_ ?_
      · refine q_goto hC 2592 dL_law_1842 rfl ?_
        refine q_iincA hC (loc' := [(4, .int (x4 + 6)), (6, .int v12), (5, .int v6), (0, .ref 1900), (1, .ref x1), (2, .ref x2), (3, .ref x3)]) 6 6 dL_law_2592 rfl rfl (Nat.le_of_ble_eq_true rfl) rfl ?_
        refine q_goto hC 23 dL_law_2595 rfl ?_
        exact c_widen (by simp only [rmL_addSight, rmX11_addSight, rmX11_thrown, rmk, room_1]; omega) (by simp only [rmL_addSight, rmX11_addSight, rmX11_thrown, rmk, room_1]; omega) (c_sub [3, 4, 5, 6, 0] rfl hJ)
      · refine q_iconst hC dL_law_1840 rfl ?_
        exact q_zret hC dL_law_1841 (by simp only [rmL_addSight, rmX11_addSight, rmX11_thrown, rmk, room_1]; omega) (by simp only [rmL_addSight, rmX11_addSight, rmX11_thrown, rmk, room_1]; omega)
  · refine q_iconst hC dL_law_1823 rfl ?_
    exact q_zret hC dL_law_1824 (by simp only [rmL_addSight, rmX11_addSight, rmX11_thrown, rmk, room_1]; omega) (by simp only [rmL_addSight, rmX11_addSight, rmX11_thrown, rmk, room_1]; omega)
def cl37 (L : Nat) (xs : Nat → Int32) (J : LT) (x1 x2 x3 : Nat) (x4 : Int32) : Sem :=
    sld L xs (x4 + 1) fun v1 =>
    sld L xs (x4 + 2) fun v2 =>
    br (v2 = 0)
    (cI SL_strike [.ref x1, .int v1, .int 0, .ref x3] fun v3 =>
    sld L xs (x4 + 1) fun v4 =>
    sld L xs (x4 + 2) fun v5 =>
    br (v5 = 0)
    (ob 11 x2 (cI SX11_strike [.ref x2, .int v4, .int 0] fun v6 =>
    ob 11 x2 (cI SX11_thrown [.ref x2] fun v7 =>
    br (v7 = v3)
    (br (v3 = 0)
    (aJ x3 0 fun v8 =>
    br (v6 = 0)
    (br ((lg_cmp v8 0) = 0)
    (J x1 x2 x3 (x4 + 6))
    (rZ 0))
    (br ((lg_cmp v8 1) = 0)
    (J x1 x2 x3 (x4 + 6))
    (rZ 0)))
    (J x1 x2 x3 (x4 + 6)))
    (rZ 0))))
    (ob 11 x2 (cI SX11_strike [.ref x2, .int v4, .int 1] fun v9 =>
    ob 11 x2 (cI SX11_thrown [.ref x2] fun v10 =>
    br (v10 = v3)
    (br (v3 = 0)
    (aJ x3 0 fun v11 =>
    br (v9 = 0)
    (br ((lg_cmp v11 0) = 0)
    (J x1 x2 x3 (x4 + 6))
    (rZ 0))
    (br ((lg_cmp v11 1) = 0)
    (J x1 x2 x3 (x4 + 6))
    (rZ 0)))
    (J x1 x2 x3 (x4 + 6)))
    (rZ 0)))))
    (cI SL_strike [.ref x1, .int v1, .int 1, .ref x3] fun v12 =>
    sld L xs (x4 + 1) fun v13 =>
    sld L xs (x4 + 2) fun v14 =>
    br (v14 = 0)
    (ob 11 x2 (cI SX11_strike [.ref x2, .int v13, .int 0] fun v15 =>
    ob 11 x2 (cI SX11_thrown [.ref x2] fun v16 =>
    br (v16 = v12)
    (br (v12 = 0)
    (aJ x3 0 fun v17 =>
    br (v15 = 0)
    (br ((lg_cmp v17 0) = 0)
    (J x1 x2 x3 (x4 + 6))
    (rZ 0))
    (br ((lg_cmp v17 1) = 0)
    (J x1 x2 x3 (x4 + 6))
    (rZ 0)))
    (J x1 x2 x3 (x4 + 6)))
    (rZ 0))))
    (ob 11 x2 (cI SX11_strike [.ref x2, .int v13, .int 1] fun v18 =>
    ob 11 x2 (cI SX11_thrown [.ref x2] fun v19 =>
    br (v19 = v12)
    (br (v12 = 0)
    (aJ x3 0 fun v20 =>
    br (v18 = 0)
    (br ((lg_cmp v20 0) = 0)
    (J x1 x2 x3 (x4 + 6))
    (rZ 0))
    (br ((lg_cmp v20 1) = 0)
    (J x1 x2 x3 (x4 + 6))
    (rZ 0)))
    (J x1 x2 x3 (x4 + 6)))
    (rZ 0)))))
theorem pcl37 {Γ : CT} (hC : Ctx Γ "SpiritWallLaw" cL_law 9 (some .boolean) room_1) (hnt : NT Γ) (hN : NcA (kS Γ)) {L : Nat} {xs : Nat → Int32} (hX : Scr Γ L xs) (J : LT) {cn sn x1 x2 x3 : Nat} {x4 : Int32} (h1 : cn + 100 ≤ 601024) (h2 : sn + 1000 ≤ 7293034)
    (hJ : Cor Γ 9 (cn + 100) (sn + 1000) 23 [(0, .ref 1900), (1, .ref x1), (2, .ref x2), (3, .ref x3), (4, .int (x4 + 6))] [] (J x1 x2 x3 (x4 + 6))) : Cor Γ 9 cn sn 1845 [(0, .ref 1900), (1, .ref x1), (2, .ref x2), (3, .ref x3), (4, .int x4)] [] (cl37 L xs J x1 x2 x3 x4) := by
  unfold cl37
  refine q_aload_n hC 1 dL_law_1845 rfl rfl ?_
  refine q_aload_n hC 0 dL_law_1846 rfl rfl ?_
  refine q_iload hC 4 dL_law_1847 rfl ?_
  refine q_iconst hC dL_law_1849 rfl ?_
  refine q_iadd hC dL_law_1850 ?_
  refine q_sld hC hX dL_law_1851 (fun v1 => ?_)
  refine q_aload_n hC 0 dL_law_1852 rfl rfl ?_
  refine q_iload hC 4 dL_law_1853 rfl ?_
  refine q_iconst hC dL_law_1855 rfl ?_
  refine q_iadd hC dL_law_1856 ?_
  refine q_sld hC hX dL_law_1857 (fun v2 => ?_)
  refine q_if_eq hC 1865 dL_law_1858 rfl ?_ ?_
  · refine q_iconst hC dL_law_1865 rfl ?_
    refine q_aload_n hC 3 dL_law_1866 rfl rfl ?_
    refine q_cSXI hC hnt hN (stk := []) (as := [.ref x1, .int v1, .int 0, .ref x3]) sL_strike nL_strike (roomOk_of (by simp only [rmL_strike, rmX11_strike, rmX11_thrown, rmk, room_1]; omega)) w_1694 w_1695 w_1481 w_1696 (Nat.le_of_ble_eq_true rfl) dL_law_1867 rfl (fun v3 => ?_)
    refine q_istoreA hC (loc' := [(5, .int v3), (0, .ref 1900), (1, .ref x1), (2, .ref x2), (3, .ref x3), (4, .int x4)]) dL_law_1870 (Nat.le_of_ble_eq_true rfl) rfl ?_
    refine q_aload_n hC 3 dL_law_1872 rfl rfl ?_
    refine q_aload_n hC 1 dL_law_1873 rfl rfl ?_
    refine q_iload hC 5 dL_law_1874 rfl ?_
    refine q_iconst hC dL_law_1876 rfl ?_
    refine q_iadd hC dL_law_1877 ?_
    refine q_sld hC hX dL_law_1878 (fun v4 => ?_)
    refine q_aload_n hC 1 dL_law_1879 rfl rfl ?_
    refine q_iload hC 5 dL_law_1880 rfl ?_
    refine q_iconst hC dL_law_1882 rfl ?_
    refine q_iadd hC dL_law_1883 ?_
    refine q_sld hC hX dL_law_1884 (fun v5 => ?_)
    refine q_if_eq hC 1892 dL_law_1885 rfl ?_ ?_
    · refine q_iconst hC dL_law_1892 rfl ?_
      refine q_cVI hC hnt (stk := []) (as := [.int v4, .int 0]) sX11_strike (ci := 11) (by decide) rfl nX11_strike (roomOk_of (by simp only [rmL_strike, rmX11_strike, rmX11_thrown, rmk, room_1]; omega)) w_1690 w_1692 w_1693 w_830 w_1691 (Nat.le_of_ble_eq_true rfl) dL_law_1893 rfl (fun v6 => ?_)
      refine q_istoreA hC (loc' := [(6, .int v6), (5, .int v3), (0, .ref 1900), (1, .ref x1), (2, .ref x2), (3, .ref x3), (4, .int x4)]) dL_law_1896 (Nat.le_of_ble_eq_true rfl) rfl ?_
      refine q_aload_n hC 4 dL_law_1898 rfl rfl ?_
      refine q_cVI hC hnt (stk := []) (as := []) sX11_thrown (ci := 11) (by decide) rfl nX11_thrown (roomOk_of (by simp only [rmL_strike, rmX11_strike, rmX11_thrown, rmk, room_1]; omega)) w_1475 w_1477 w_1478 w_830 w_1476 (Nat.le_of_ble_eq_true rfl) dL_law_1899 rfl (fun v7 => ?_)
      refine q_iload hC 1 dL_law_1902 rfl ?_
      refine q_ic_eq hC 1909 dL_law_1904 rfl ?_ ?_
      · refine q_iload hC 1 dL_law_1909 rfl ?_
        refine q_if_ne hC 1933 dL_law_1911 rfl ?_ ?_
        · refine q_goto hC 2592 dL_law_1933 rfl ?_
          refine q_iincA hC (loc' := [(4, .int (x4 + 6)), (6, .int v6), (5, .int v3), (0, .ref 1900), (1, .ref x1), (2, .ref x2), (3, .ref x3)]) 6 6 dL_law_2592 rfl rfl (Nat.le_of_ble_eq_true rfl) rfl ?_
          refine q_goto hC 23 dL_law_2595 rfl ?_
          exact c_widen (by simp only [rmL_strike, rmX11_strike, rmX11_thrown, rmk, room_1]; omega) (by simp only [rmL_strike, rmX11_strike, rmX11_thrown, rmk, room_1]; omega) (c_sub [3, 4, 5, 6, 0] rfl hJ)
        · refine q_aload_n hC 5 dL_law_1914 rfl rfl ?_
          refine q_iconst hC dL_law_1915 rfl ?_
          refine q_lald hC dL_law_1916 (fun v8 => ?_)
          refine q_iload hC 0 dL_law_1917 rfl ?_
          refine q_if_eq hC 1926 dL_law_1919 rfl ?_ ?_
          · refine q_lconst hC (v := 0) dL_law_1926 rfl ?_
            refine q_lcmp hC dL_law_1927 ?_
            refine q_if_eq hC 1933 dL_law_1928 rfl ?_ ?_
            · refine q_goto hC 2592 dL_law_1933 rfl ?_
              refine q_iincA hC (loc' := [(4, .int (x4 + 6)), (6, .int v6), (5, .int v3), (0, .ref 1900), (1, .ref x1), (2, .ref x2), (3, .ref x3)]) 6 6 dL_law_2592 rfl rfl (Nat.le_of_ble_eq_true rfl) rfl ?_
              refine q_goto hC 23 dL_law_2595 rfl ?_
              exact c_widen (by simp only [rmL_strike, rmX11_strike, rmX11_thrown, rmk, room_1]; omega) (by simp only [rmL_strike, rmX11_strike, rmX11_thrown, rmk, room_1]; omega) (c_sub [3, 4, 5, 6, 0] rfl hJ)
            · refine q_iconst hC dL_law_1931 rfl ?_
              exact q_zret hC dL_law_1932 (by simp only [rmL_strike, rmX11_strike, rmX11_thrown, rmk, room_1]; omega) (by simp only [rmL_strike, rmX11_strike, rmX11_thrown, rmk, room_1]; omega)
          · refine q_lconst hC (v := 1) dL_law_1922 rfl ?_
            refine q_goto hC 1927 dL_law_1923 rfl ?_
            refine q_lcmp hC dL_law_1927 ?_
            refine q_if_eq hC 1933 dL_law_1928 rfl ?_ ?_
            · refine q_goto hC 2592 dL_law_1933 rfl ?_
              refine q_iincA hC (loc' := [(4, .int (x4 + 6)), (6, .int v6), (5, .int v3), (0, .ref 1900), (1, .ref x1), (2, .ref x2), (3, .ref x3)]) 6 6 dL_law_2592 rfl rfl (Nat.le_of_ble_eq_true rfl) rfl ?_
              refine q_goto hC 23 dL_law_2595 rfl ?_
              exact c_widen (by simp only [rmL_strike, rmX11_strike, rmX11_thrown, rmk, room_1]; omega) (by simp only [rmL_strike, rmX11_strike, rmX11_thrown, rmk, room_1]; omega) (c_sub [3, 4, 5, 6, 0] rfl hJ)
            · refine q_iconst hC dL_law_1931 rfl ?_
              exact q_zret hC dL_law_1932 (by simp only [rmL_strike, rmX11_strike, rmX11_thrown, rmk, room_1]; omega) (by simp only [rmL_strike, rmX11_strike, rmX11_thrown, rmk, room_1]; omega)
      · refine q_iconst hC dL_law_1907 rfl ?_
        exact q_zret hC dL_law_1908 (by simp only [rmL_strike, rmX11_strike, rmX11_thrown, rmk, room_1]; omega) (by simp only [rmL_strike, rmX11_strike, rmX11_thrown, rmk, room_1]; omega)
    · refine q_iconst hC dL_law_1888 rfl ?_
      refine q_goto hC 1893 dL_law_1889 rfl ?_
      refine q_cVI hC hnt (stk := []) (as := [.int v4, .int 1]) sX11_strike (ci := 11) (by decide) rfl nX11_strike (roomOk_of (by simp only [rmL_strike, rmX11_strike, rmX11_thrown, rmk, room_1]; omega)) w_1690 w_1692 w_1693 w_830 w_1691 (Nat.le_of_ble_eq_true rfl) dL_law_1893 rfl (fun v9 => ?_)
      refine q_istoreA hC (loc' := [(6, .int v9), (5, .int v3), (0, .ref 1900), (1, .ref x1), (2, .ref x2), (3, .ref x3), (4, .int x4)]) dL_law_1896 (Nat.le_of_ble_eq_true rfl) rfl ?_
      refine q_aload_n hC 4 dL_law_1898 rfl rfl ?_
      refine q_cVI hC hnt (stk := []) (as := []) sX11_thrown (ci := 11) (by decide) rfl nX11_thrown (roomOk_of (by simp only [rmL_strike, rmX11_strike, rmX11_thrown, rmk, room_1]; omega)) w_1475 w_1477 w_1478 w_830 w_1476 (Nat.le_of_ble_eq_true rfl) dL_law_1899 rfl (fun v10 => ?_)
      refine q_iload hC 1 dL_law_1902 rfl ?_
      refine q_ic_eq hC 1909 dL_law_1904 rfl ?_ ?_
      · refine q_iload hC 1 dL_law_1909 rfl ?_
        refine q_if_ne hC 1933 dL_law_1911 rfl ?_ ?_
        · refine q_goto hC 2592 dL_law_1933 rfl ?_
          refine q_iincA hC (loc' := [(4, .int (x4 + 6)), (6, .int v9), (5, .int v3), (0, .ref 1900), (1, .ref x1), (2, .ref x2), (3, .ref x3)]) 6 6 dL_law_2592 rfl rfl (Nat.le_of_ble_eq_true rfl) rfl ?_
          refine q_goto hC 23 dL_law_2595 rfl ?_
          exact c_widen (by simp only [rmL_strike, rmX11_strike, rmX11_thrown, rmk, room_1]; omega) (by simp only [rmL_strike, rmX11_strike, rmX11_thrown, rmk, room_1]; omega) (c_sub [3, 4, 5, 6, 0] rfl hJ)
        · refine q_aload_n hC 5 dL_law_1914 rfl rfl ?_
          refine q_iconst hC dL_law_1915 rfl ?_
          refine q_lald hC dL_law_1916 (fun v11 => ?_)
          refine q_iload hC 0 dL_law_1917 rfl ?_
          refine q_if_eq hC 1926 dL_law_1919 rfl ?_ ?_
          · refine q_lconst hC (v := 0) dL_law_1926 rfl ?_
            refine q_lcmp hC dL_law_1927 ?_
            refine q_if_eq hC 1933 dL_law_1928 rfl ?_ ?_
            · refine q_goto hC 2592 dL_law_1933 rfl ?_
              refine q_iincA hC (loc' := [(4, .int (x4 + 6)), (6, .int v9), (5, .int v3), (0, .ref 1900), (1, .ref x1), (2, .ref x2), (3, .ref x3)]) 6 6 dL_law_2592 rfl rfl (Nat.le_of_ble_eq_true rfl) rfl ?_
              refine q_goto hC 23 dL_law_2595 rfl ?_
              exact c_widen (by simp only [rmL_strike, rmX11_strike, rmX11_thrown, rmk, room_1]; omega) (by simp only [rmL_strike, rmX11_strike, rmX11_thrown, rmk, room_1]; omega) (c_sub [3, 4, 5, 6, 0] rfl hJ)
            · refine q_iconst hC dL_law_1931 rfl ?_
              exact q_zret hC dL_law_1932 (by simp only [rmL_strike, rmX11_strike, rmX11_thrown, rmk, room_1]; omega) (by simp only [rmL_strike, rmX11_strike, rmX11_thrown, rmk, room_1]; omega)
          · refine q_lconst hC (v := 1) dL_law_1922 rfl ?_
            refine q_goto hC 1927 dL_law_1923 rfl ?_
            refine q_lcmp hC dL_law_1927 ?_
            refine q_if_eq hC 1933 dL_law_1928 rfl ?_ ?_
            · refine q_goto hC 2592 dL_law_1933 rfl ?_
              refine q_iincA hC (loc' := [(4, .int (x4 + 6)), (6, .int v9), (5, .int v3), (0, .ref 1900), (1, .ref x1), (2, .ref x2), (3, .ref x3)]) 6 6 dL_law_2592 rfl rfl (Nat.le_of_ble_eq_true rfl) rfl ?_
              refine q_goto hC 23 dL_law_2595 rfl ?_
              exact c_widen (by simp only [rmL_strike, rmX11_strike, rmX11_thrown, rmk, room_1]; omega) (by simp only [rmL_strike, rmX11_strike, rmX11_thrown, rmk, room_1]; omega) (c_sub [3, 4, 5, 6, 0] rfl hJ)
            · refine q_iconst hC dL_law_1931 rfl ?_
              exact q_zret hC dL_law_1932 (by simp only [rmL_strike, rmX11_strike, rmX11_thrown, rmk, room_1]; omega) (by simp only [rmL_strike, rmX11_strike, rmX11_thrown, rmk, room_1]; omega)
      · refine q_iconst hC dL_law_1907 rfl ?_
        exact q_zret hC dL_law_1908 (by simp only [rmL_strike, rmX11_strike, rmX11_thrown, rmk, room_1]; omega) (by simp only [rmL_strike, rmX11_strike, rmX11_thrown, rmk, room_1]; omega)
  · refine q_iconst hC dL_law_1861 rfl ?_
    refine q_goto hC 1866 dL_law_1862 rfl ?_
    refine q_aload_n hC 3 dL_law_1866 rfl rfl ?_
    refine q_cSXI hC hnt hN (stk := []) (as := [.ref x1, .int v1, .int 1, .ref x3]) sL_strike nL_strike (roomOk_of (by simp only [rmL_strike, rmX11_strike, rmX11_thrown, rmk, room_1]; omega)) w_1694 w_1695 w_1481 w_1696 (Nat.le_of_ble_eq_true rfl) dL_law_1867 rfl (fun v12 => ?_)
    refine q_istoreA hC (loc' := [(5, .int v12), (0, .ref 1900), (1, .ref x1), (2, .ref x2), (3, .ref x3), (4, .int x4)]) dL_law_1870 (Nat.le_of_ble_eq_true rfl) rfl ?_
    refine q_aload_n hC 3 dL_law_1872 rfl rfl ?_
    refine q_aload_n hC 1 dL_law_1873 rfl rfl ?_
    refine q_iload hC 5 dL_law_1874 rfl ?_
    refine q_iconst hC dL_law_1876 rfl ?_
    refine q_iadd hC dL_law_1877 ?_
    refine q_sld hC hX dL_law_1878 (fun v13 => ?_)
    refine q_aload_n hC 1 dL_law_1879 rfl rfl ?_
    refine q_iload hC 5 dL_law_1880 rfl ?_
    refine q_iconst hC dL_law_1882 rfl ?_
    refine q_iadd hC dL_law_1883 ?_
    refine q_sld hC hX dL_law_1884 (fun v14 => ?_)
    refine q_if_eq hC 1892 dL_law_1885 rfl ?_ ?_
    · refine q_iconst hC dL_law_1892 rfl ?_
      refine q_cVI hC hnt (stk := []) (as := [.int v13, .int 0]) sX11_strike (ci := 11) (by decide) rfl nX11_strike (roomOk_of (by simp only [rmL_strike, rmX11_strike, rmX11_thrown, rmk, room_1]; omega)) w_1690 w_1692 w_1693 w_830 w_1691 (Nat.le_of_ble_eq_true rfl) dL_law_1893 rfl (fun v15 => ?_)
      refine q_istoreA hC (loc' := [(6, .int v15), (5, .int v12), (0, .ref 1900), (1, .ref x1), (2, .ref x2), (3, .ref x3), (4, .int x4)]) dL_law_1896 (Nat.le_of_ble_eq_true rfl) rfl ?_
      refine q_aload_n hC 4 dL_law_1898 rfl rfl ?_
      refine q_cVI hC hnt (stk := []) (as := []) sX11_thrown (ci := 11) (by decide) rfl nX11_thrown (roomOk_of (by simp only [rmL_strike, rmX11_strike, rmX11_thrown, rmk, room_1]; omega)) w_1475 w_1477 w_1478 w_830 w_1476 (Nat.le_of_ble_eq_true rfl) dL_law_1899 rfl (fun v16 => ?_)
      refine q_iload hC 1 dL_law_1902 rfl ?_
      refine q_ic_eq hC 1909 dL_law_1904 rfl ?_ ?_
      · refine q_iload hC 1 dL_law_1909 rfl ?_
        refine q_if_ne hC 1933 dL_law_1911 rfl ?_ ?_
        · refine q_goto hC 2592 dL_law_1933 rfl ?_
          refine q_iincA hC (loc' := [(4, .int (x4 + 6)), (6, .int v15), (5, .int v12), (0, .ref 1900), (1, .ref x1), (2, .ref x2), (3, .ref x3)]) 6 6 dL_law_2592 rfl rfl (Nat.le_of_ble_eq_true rfl) rfl ?_
          refine q_goto hC 23 dL_law_2595 rfl ?_
          exact c_widen (by simp only [rmL_strike, rmX11_strike, rmX11_thrown, rmk, room_1]; omega) (by simp only [rmL_strike, rmX11_strike, rmX11_thrown, rmk, room_1]; omega) (c_sub [3, 4, 5, 6, 0] rfl hJ)
        · refine q_aload_n hC 5 dL_law_1914 rfl rfl ?_
          refine q_iconst hC dL_law_1915 rfl ?_
          refine q_lald hC dL_law_1916 (fun v17 => ?_)
          refine q_iload hC 0 dL_law_1917 rfl ?_
          refine q_if_eq hC 1926 dL_law_1919 rfl ?_ ?_
          · refine q_lconst hC (v := 0) dL_law_1926 rfl ?_
            refine q_lcmp hC dL_law_1927 ?_
            refine q_if_eq hC 1933 dL_law_1928 rfl ?_ ?_
            · refine q_goto hC 2592 dL_law_1933 rfl ?_
              refine q_iincA hC (loc' := [(4, .int (x4 + 6)), (6, .int v15), (5, .int v12), (0, .ref 1900), (1, .ref x1), (2, .ref x2), (3, .ref x3)]) 6 6 dL_law_2592 rfl rfl (Nat.le_of_ble_eq_true rfl) rfl ?_
              refine q_goto hC 23 dL_law_2595 rfl ?_
              exact c_widen (by simp only [rmL_strike, rmX11_strike, rmX11_thrown, rmk, room_1]; omega) (by simp only [rmL_strike, rmX11_strike, rmX11_thrown, rmk, room_1]; omega) (c_sub [3, 4, 5, 6, 0] rfl hJ)
            · refine q_iconst hC dL_law_1931 rfl ?_
              exact q_zret hC dL_law_1932 (by simp only [rmL_strike, rmX11_strike, rmX11_thrown, rmk, room_1]; omega) (by simp only [rmL_strike, rmX11_strike, rmX11_thrown, rmk, room_1]; omega)
          · refine q_lconst hC (v := 1) dL_law_1922 rfl ?_
            refine q_goto hC 1927 dL_law_1923 rfl ?_
            refine q_lcmp hC dL_law_1927 ?_
            refine q_if_eq hC 1933 dL_law_1928 rfl ?_ ?_
            · refine q_goto hC 2592 dL_law_1933 rfl ?_
              refine q_iincA hC (loc' := [(4, .int (x4 + 6)), (6, .int v15), (5, .int v12), (0, .ref 1900), (1, .ref x1), (2, .ref x2), (3, .ref x3)]) 6 6 dL_law_2592 rfl rfl (Nat.le_of_ble_eq_true rfl) rfl ?_
              refine q_goto hC 23 dL_law_2595 rfl ?_
              exact c_widen (by simp only [rmL_strike, rmX11_strike, rmX11_thrown, rmk, room_1]; omega) (by simp only [rmL_strike, rmX11_strike, rmX11_thrown, rmk, room_1]; omega) (c_sub [3, 4, 5, 6, 0] rfl hJ)
            · refine q_iconst hC dL_law_1931 rfl ?_
              exact q_zret hC dL_law_1932 (by simp only [rmL_strike, rmX11_strike, rmX11_thrown, rmk, room_1]; omega) (by simp only [rmL_strike, rmX11_strike, rmX11_thrown, rmk, room_1]; omega)
      · refine q_iconst hC dL_law_1907 rfl ?_
        exact q_zret hC dL_law_1908 (by simp only [rmL_strike, rmX11_strike, rmX11_thrown, rmk, room_1]; omega) (by simp only [rmL_strike, rmX11_strike, rmX11_thrown, rmk, room_1]; omega)
    · refine q_iconst hC dL_law_1888 rfl ?_
      refine q_goto hC 1893 dL_law_1889 rfl ?_
      refine q_cVI hC hnt (stk := []) (as := [.int v13, .int 1]) sX11_strike (ci := 11) (by decide) rfl nX11_strike (roomOk_of (by simp only [rmL_strike, rmX11_strike, rmX11_thrown, rmk, room_1]; omega)) w_1690 w_1692 w_1693 w_830 w_1691 (Nat.le_of_ble_eq_true rfl) dL_law_1893 rfl (fun v18 => ?_)
      refine q_istoreA hC (loc' := [(6, .int v18), (5, .int v12), (0, .ref 1900), (1, .ref x1), (2, .ref x2), (3, .ref x3), (4, .int x4)]) dL_law_1896 (Nat.le_of_ble_eq_true rfl) rfl ?_
      refine q_aload_n hC 4 dL_law_1898 rfl rfl ?_
      refine q_cVI hC hnt (stk := []) (as := []) sX11_thrown (ci := 11) (by decide) rfl nX11_thrown (roomOk_of (by simp only [rmL_strike, rmX11_strike, rmX11_thrown, rmk, room_1]; omega)) w_1475 w_1477 w_1478 w_830 w_1476 (Nat.le_of_ble_eq_true rfl) dL_law_1899 rfl (fun v19 => ?_)
      refine q_iload hC 1 dL_law_1902 rfl ?_
      refine q_ic_eq hC 1909 dL_law_1904 rfl ?_ ?_
      · refine q_iload hC 1 dL_law_1909 rfl ?_
        refine q_if_ne hC 1933 dL_law_1911 rfl ?_ ?_
        · refine q_goto hC 2592 dL_law_1933 rfl ?_
          refine q_iincA hC (loc' := [(4, .int (x4 + 6)), (6, .int v18), (5, .int v12), (0, .ref 1900), (1, .ref x1), (2, .ref x2), (3, .ref x3)]) 6 6 dL_law_2592 rfl rfl (Nat.le_of_ble_eq_true rfl) rfl ?_
          refine q_goto hC 23 dL_law_2595 rfl ?_
          exact c_widen (by simp only [rmL_strike, rmX11_strike, rmX11_thrown, rmk, room_1]; omega) (by simp only [rmL_strike, rmX11_strike, rmX11_thrown, rmk, room_1]; omega) (c_sub [3, 4, 5, 6, 0] rfl hJ)
        · refine q_aload_n hC 5 dL_law_1914 rfl rfl ?_
          refine q_iconst hC dL_law_1915 rfl ?_
          refine q_lald hC dL_law_1916 (fun v20 => ?_)
          refine q_iload hC 0 dL_law_1917 rfl ?_
          refine q_if_eq hC 1926 dL_law_1919 rfl ?_ ?_
          · refine q_lconst hC (v := 0) dL_law_1926 rfl ?_
            refine q_lcmp hC dL_law_1927 ?_
            refine q_if_eq hC 1933 dL_law_1928 rfl ?_ ?_
            · refine q_goto hC 2592 dL_law_1933 rfl ?_
              refine q_iincA hC (loc' := [(4, .int (x4 + 6)), (6, .int v18), (5, .int v12), (0, .ref 1900), (1, .ref x1), (2, .ref x2), (3, .ref x3)]) 6 6 dL_law_2592 rfl rfl (Nat.le_of_ble_eq_true rfl) rfl ?_
              refine q_goto hC 23 dL_law_2595 rfl ?_
              exact c_widen (by simp only [rmL_strike, rmX11_strike, rmX11_thrown, rmk, room_1]; omega) (by simp only [rmL_strike, rmX11_strike, rmX11_thrown, rmk, room_1]; omega) (c_sub [3, 4, 5, 6, 0] rfl hJ)
            · refine q_iconst hC dL_law_1931 rfl ?_
              exact q_zret hC dL_law_1932 (by simp only [rmL_strike, rmX11_strike, rmX11_thrown, rmk, room_1]; omega) (by simp only [rmL_strike, rmX11_strike, rmX11_thrown, rmk, room_1]; omega)
          · refine q_lconst hC (v := 1) dL_law_1922 rfl ?_
            refine q_goto hC 1927 dL_law_1923 rfl ?_
            refine q_lcmp hC dL_law_1927 ?_
            refine q_if_eq hC 1933 dL_law_1928 rfl ?_ ?_
            · refine q_goto hC 2592 dL_law_1933 rfl ?_
              refine q_iincA hC (loc' := [(4, .int (x4 + 6)), (6, .int v18), (5, .int v12), (0, .ref 1900), (1, .ref x1), (2, .ref x2), (3, .ref x3)]) 6 6 dL_law_2592 rfl rfl (Nat.le_of_ble_eq_true rfl) rfl ?_
              refine q_goto hC 23 dL_law_2595 rfl ?_
              exact c_widen (by simp only [rmL_strike, rmX11_strike, rmX11_thrown, rmk, room_1]; omega) (by simp only [rmL_strike, rmX11_strike, rmX11_thrown, rmk, room_1]; omega) (c_sub [3, 4, 5, 6, 0] rfl hJ)
            · refine q_iconst hC dL_law_1931 rfl ?_
              exact q_zret hC dL_law_1932 (by simp only [rmL_strike, rmX11_strike, rmX11_thrown, rmk, room_1]; omega) (by simp only [rmL_strike, rmX11_strike, rmX11_thrown, rmk, room_1]; omega)
      · refine q_iconst hC dL_law_1907 rfl ?_
        exact q_zret hC dL_law_1908 (by simp only [rmL_strike, rmX11_strike, rmX11_thrown, rmk, room_1]; omega) (by simp only [rmL_strike, rmX11_strike, rmX11_thrown, rmk, room_1]; omega)
def cl38 (L : Nat) (xs : Nat → Int32) (J : LT) (x1 x2 x3 : Nat) (x4 : Int32) : Sem :=
    sld L xs (x4 + 1) fun v1 =>
    sld L xs (x4 + 2) fun v2 =>
    cI SL_swap [.ref x1, .int v1, .int v2, .ref x3] fun v3 =>
    sld L xs (x4 + 1) fun v4 =>
    sld L xs (x4 + 2) fun v5 =>
    ob 11 x2 (cI SX11_swap [.ref x2, .int v4, .int v5] fun v6 =>
    ob 11 x2 (cI SX11_thrown [.ref x2] fun v7 =>
    br (v7 = v3)
    (br (v3 = 0)
    (aJ x3 0 fun v8 =>
    br ((lg_cmp v8 (v6.toInt64)) = 0)
    (J x1 x2 x3 (x4 + 6))
    (rZ 0))
    (J x1 x2 x3 (x4 + 6)))
    (rZ 0)))
theorem pcl38 {Γ : CT} (hC : Ctx Γ "SpiritWallLaw" cL_law 9 (some .boolean) room_1) (hnt : NT Γ) (hN : NcA (kS Γ)) {L : Nat} {xs : Nat → Int32} (hX : Scr Γ L xs) (J : LT) {cn sn x1 x2 x3 : Nat} {x4 : Int32} (h1 : cn + 100 ≤ 601024) (h2 : sn + 1000 ≤ 7293034)
    (hJ : Cor Γ 9 (cn + 100) (sn + 1000) 23 [(0, .ref 1900), (1, .ref x1), (2, .ref x2), (3, .ref x3), (4, .int (x4 + 6))] [] (J x1 x2 x3 (x4 + 6))) : Cor Γ 9 cn sn 1936 [(0, .ref 1900), (1, .ref x1), (2, .ref x2), (3, .ref x3), (4, .int x4)] [] (cl38 L xs J x1 x2 x3 x4) := by
  unfold cl38
  refine q_aload_n hC 1 dL_law_1936 rfl rfl ?_
  refine q_aload_n hC 0 dL_law_1937 rfl rfl ?_
  refine q_iload hC 4 dL_law_1938 rfl ?_
  refine q_iconst hC dL_law_1940 rfl ?_
  refine q_iadd hC dL_law_1941 ?_
  refine q_sld hC hX dL_law_1942 (fun v1 => ?_)
  refine q_aload_n hC 0 dL_law_1943 rfl rfl ?_
  refine q_iload hC 4 dL_law_1944 rfl ?_
  refine q_iconst hC dL_law_1946 rfl ?_
  refine q_iadd hC dL_law_1947 ?_
  refine q_sld hC hX dL_law_1948 (fun v2 => ?_)
  refine q_aload_n hC 3 dL_law_1949 rfl rfl ?_
  refine q_cSXI hC hnt hN (stk := []) (as := [.ref x1, .int v1, .int v2, .ref x3]) sL_swap nL_swap (roomOk_of (by simp only [rmL_swap, rmX11_swap, rmX11_thrown, rmk, room_1]; omega)) w_1701 w_1702 w_1481 w_1703 (Nat.le_of_ble_eq_true rfl) dL_law_1950 rfl (fun v3 => ?_)
  refine q_istoreA hC (loc' := [(5, .int v3), (0, .ref 1900), (1, .ref x1), (2, .ref x2), (3, .ref x3), (4, .int x4)]) dL_law_1953 (Nat.le_of_ble_eq_true rfl) rfl ?_
  refine q_aload_n hC 3 dL_law_1955 rfl rfl ?_
  refine q_aload_n hC 1 dL_law_1956 rfl rfl ?_
  refine q_iload hC 5 dL_law_1957 rfl ?_
  refine q_iconst hC dL_law_1959 rfl ?_
  refine q_iadd hC dL_law_1960 ?_
  refine q_sld hC hX dL_law_1961 (fun v4 => ?_)
  refine q_aload_n hC 1 dL_law_1962 rfl rfl ?_
  refine q_iload hC 5 dL_law_1963 rfl ?_
  refine q_iconst hC dL_law_1965 rfl ?_
  refine q_iadd hC dL_law_1966 ?_
  refine q_sld hC hX dL_law_1967 (fun v5 => ?_)
  refine q_cVI hC hnt (stk := []) (as := [.int v4, .int v5]) sX11_swap (ci := 11) (by decide) rfl nX11_swap (roomOk_of (by simp only [rmL_swap, rmX11_swap, rmX11_thrown, rmk, room_1]; omega)) w_1697 w_1699 w_1700 w_830 w_1698 (Nat.le_of_ble_eq_true rfl) dL_law_1968 rfl (fun v6 => ?_)
  refine q_istoreA hC (loc' := [(6, .int v6), (5, .int v3), (0, .ref 1900), (1, .ref x1), (2, .ref x2), (3, .ref x3), (4, .int x4)]) dL_law_1971 (Nat.le_of_ble_eq_true rfl) rfl ?_
  refine q_aload_n hC 4 dL_law_1973 rfl rfl ?_
  refine q_cVI hC hnt (stk := []) (as := []) sX11_thrown (ci := 11) (by decide) rfl nX11_thrown (roomOk_of (by simp only [rmL_swap, rmX11_swap, rmX11_thrown, rmk, room_1]; omega)) w_1475 w_1477 w_1478 w_830 w_1476 (Nat.le_of_ble_eq_true rfl) dL_law_1974 rfl (fun v7 => ?_)
  refine q_iload hC 1 dL_law_1977 rfl ?_
  refine q_ic_eq hC 1984 dL_law_1979 rfl ?_ ?_
  · refine q_iload hC 1 dL_law_1984 rfl ?_
    refine q_if_ne hC 2001 dL_law_1986 rfl ?_ ?_
    · refine q_goto hC 2592 dL_law_2001 rfl ?_
      refine q_iincA hC (loc' := [(4, .int (x4 + 6)), (6, .int v6), (5, .int v3), (0, .ref 1900), (1, .ref x1), (2, .ref x2), (3, .ref x3)]) 6 6 dL_law_2592 rfl rfl (Nat.le_of_ble_eq_true rfl) rfl ?_
      refine q_goto hC 23 dL_law_2595 rfl ?_
      exact c_widen (by simp only [rmL_swap, rmX11_swap, rmX11_thrown, rmk, room_1]; omega) (by simp only [rmL_swap, rmX11_swap, rmX11_thrown, rmk, room_1]; omega) (c_sub [3, 4, 5, 6, 0] rfl hJ)
    · refine q_aload_n hC 5 dL_law_1989 rfl rfl ?_
      refine q_iconst hC dL_law_1990 rfl ?_
      refine q_lald hC dL_law_1991 (fun v8 => ?_)
      refine q_iload hC 0 dL_law_1992 rfl ?_
      refine q_i2l hC dL_law_1994 ?_
      refine q_lcmp hC dL_law_1995 ?_
      refine q_if_eq hC 2001 dL_law_1996 rfl ?_ ?_
      · refine q_goto hC 2592 dL_law_2001 rfl ?_
        refine q_iincA hC (loc' := [(4, .int (x4 + 6)), (6, .int v6), (5, .int v3), (0, .ref 1900), (1, .ref x1), (2, .ref x2), (3, .ref x3)]) 6 6 dL_law_2592 rfl rfl (Nat.le_of_ble_eq_true rfl) rfl ?_
        refine q_goto hC 23 dL_law_2595 rfl ?_
        exact c_widen (by simp only [rmL_swap, rmX11_swap, rmX11_thrown, rmk, room_1]; omega) (by simp only [rmL_swap, rmX11_swap, rmX11_thrown, rmk, room_1]; omega) (c_sub [3, 4, 5, 6, 0] rfl hJ)
      · refine q_iconst hC dL_law_1999 rfl ?_
        exact q_zret hC dL_law_2000 (by simp only [rmL_swap, rmX11_swap, rmX11_thrown, rmk, room_1]; omega) (by simp only [rmL_swap, rmX11_swap, rmX11_thrown, rmk, room_1]; omega)
  · refine q_iconst hC dL_law_1982 rfl ?_
    exact q_zret hC dL_law_1983 (by simp only [rmL_swap, rmX11_swap, rmX11_thrown, rmk, room_1]; omega) (by simp only [rmL_swap, rmX11_swap, rmX11_thrown, rmk, room_1]; omega)
def cl39 (L : Nat) (xs : Nat → Int32) (J : LT) (x1 x2 x3 : Nat) (x4 : Int32) : Sem :=
    sld L xs (x4 + 1) fun v1 =>
    sld L xs (x4 + 2) fun v2 =>
    cI SL_fix [.ref x1, .int v1, .int v2, .ref x3] fun v3 =>
    sld L xs (x4 + 1) fun v4 =>
    sld L xs (x4 + 2) fun v5 =>
    ob 11 x2 (cI SX11_fix [.ref x2, .int v4, .int v5] fun v6 =>
    ob 11 x2 (cI SX11_thrown [.ref x2] fun v7 =>
    br (v7 = v3)
    (br (v3 = 0)
    (aJ x3 0 fun v8 =>
    br (v6 = 0)
    (br ((lg_cmp v8 0) = 0)
    (J x1 x2 x3 (x4 + 6))
    (rZ 0))
    (br ((lg_cmp v8 1) = 0)
    (J x1 x2 x3 (x4 + 6))
    (rZ 0)))
    (J x1 x2 x3 (x4 + 6)))
    (rZ 0)))
theorem pcl39 {Γ : CT} (hC : Ctx Γ "SpiritWallLaw" cL_law 9 (some .boolean) room_1) (hnt : NT Γ) (hN : NcA (kS Γ)) {L : Nat} {xs : Nat → Int32} (hX : Scr Γ L xs) (J : LT) {cn sn x1 x2 x3 : Nat} {x4 : Int32} (h1 : cn + 100 ≤ 601024) (h2 : sn + 1000 ≤ 7293034)
    (hJ : Cor Γ 9 (cn + 100) (sn + 1000) 23 [(0, .ref 1900), (1, .ref x1), (2, .ref x2), (3, .ref x3), (4, .int (x4 + 6))] [] (J x1 x2 x3 (x4 + 6))) : Cor Γ 9 cn sn 2004 [(0, .ref 1900), (1, .ref x1), (2, .ref x2), (3, .ref x3), (4, .int x4)] [] (cl39 L xs J x1 x2 x3 x4) := by
  unfold cl39
  refine q_aload_n hC 1 dL_law_2004 rfl rfl ?_
  refine q_aload_n hC 0 dL_law_2005 rfl rfl ?_
  refine q_iload hC 4 dL_law_2006 rfl ?_
  refine q_iconst hC dL_law_2008 rfl ?_
  refine q_iadd hC dL_law_2009 ?_
  refine q_sld hC hX dL_law_2010 (fun v1 => ?_)
  refine q_aload_n hC 0 dL_law_2011 rfl rfl ?_
  refine q_iload hC 4 dL_law_2012 rfl ?_
  refine q_iconst hC dL_law_2014 rfl ?_
  refine q_iadd hC dL_law_2015 ?_
  refine q_sld hC hX dL_law_2016 (fun v2 => ?_)
  refine q_aload_n hC 3 dL_law_2017 rfl rfl ?_
  refine q_cSXI hC hnt hN (stk := []) (as := [.ref x1, .int v1, .int v2, .ref x3]) sL_fix nL_fix (roomOk_of (by simp only [rmL_fix, rmX11_fix, rmX11_thrown, rmk, room_1]; omega)) w_1708 w_1709 w_1481 w_1710 (Nat.le_of_ble_eq_true rfl) dL_law_2018 rfl (fun v3 => ?_)
  refine q_istoreA hC (loc' := [(5, .int v3), (0, .ref 1900), (1, .ref x1), (2, .ref x2), (3, .ref x3), (4, .int x4)]) dL_law_2021 (Nat.le_of_ble_eq_true rfl) rfl ?_
  refine q_aload_n hC 3 dL_law_2023 rfl rfl ?_
  refine q_aload_n hC 1 dL_law_2024 rfl rfl ?_
  refine q_iload hC 5 dL_law_2025 rfl ?_
  refine q_iconst hC dL_law_2027 rfl ?_
  refine q_iadd hC dL_law_2028 ?_
  refine q_sld hC hX dL_law_2029 (fun v4 => ?_)
  refine q_aload_n hC 1 dL_law_2030 rfl rfl ?_
  refine q_iload hC 5 dL_law_2031 rfl ?_
  refine q_iconst hC dL_law_2033 rfl ?_
  refine q_iadd hC dL_law_2034 ?_
  refine q_sld hC hX dL_law_2035 (fun v5 => ?_)
  refine q_cVI hC hnt (stk := []) (as := [.int v4, .int v5]) sX11_fix (ci := 11) (by decide) rfl nX11_fix (roomOk_of (by simp only [rmL_fix, rmX11_fix, rmX11_thrown, rmk, room_1]; omega)) w_1704 w_1706 w_1707 w_830 w_1705 (Nat.le_of_ble_eq_true rfl) dL_law_2036 rfl (fun v6 => ?_)
  refine q_istoreA hC (loc' := [(6, .int v6), (5, .int v3), (0, .ref 1900), (1, .ref x1), (2, .ref x2), (3, .ref x3), (4, .int x4)]) dL_law_2039 (Nat.le_of_ble_eq_true rfl) rfl ?_
  refine q_aload_n hC 4 dL_law_2041 rfl rfl ?_
  refine q_cVI hC hnt (stk := []) (as := []) sX11_thrown (ci := 11) (by decide) rfl nX11_thrown (roomOk_of (by simp only [rmL_fix, rmX11_fix, rmX11_thrown, rmk, room_1]; omega)) w_1475 w_1477 w_1478 w_830 w_1476 (Nat.le_of_ble_eq_true rfl) dL_law_2042 rfl (fun v7 => ?_)
  refine q_iload hC 1 dL_law_2045 rfl ?_
  refine q_ic_eq hC 2052 dL_law_2047 rfl ?_ ?_
  · refine q_iload hC 1 dL_law_2052 rfl ?_
    refine q_if_ne hC 2076 dL_law_2054 rfl ?_ ?_
    · refine q_goto hC 2592 dL_law_2076 rfl ?_
      refine q_iincA hC (loc' := [(4, .int (x4 + 6)), (6, .int v6), (5, .int v3), (0, .ref 1900), (1, .ref x1), (2, .ref x2), (3, .ref x3)]) 6 6 dL_law_2592 rfl rfl (Nat.le_of_ble_eq_true rfl) rfl ?_
      refine q_goto hC 23 dL_law_2595 rfl ?_
      exact c_widen (by simp only [rmL_fix, rmX11_fix, rmX11_thrown, rmk, room_1]; omega) (by simp only [rmL_fix, rmX11_fix, rmX11_thrown, rmk, room_1]; omega) (c_sub [3, 4, 5, 6, 0] rfl hJ)
    · refine q_aload_n hC 5 dL_law_2057 rfl rfl ?_
      refine q_iconst hC dL_law_2058 rfl ?_
      refine q_lald hC dL_law_2059 (fun v8 => ?_)
      refine q_iload hC 0 dL_law_2060 rfl ?_
      refine q_if_eq hC 2069 dL_law_2062 rfl ?_ ?_
      · refine q_lconst hC (v := 0) dL_law_2069 rfl ?_
        refine q_lcmp hC dL_law_2070 ?_
        refine q_if_eq hC 2076 dL_law_2071 rfl ?_ ?_
        · refine q_goto hC 2592 dL_law_2076 rfl ?_
          refine q_iincA hC (loc' := [(4, .int (x4 + 6)), (6, .int v6), (5, .int v3), (0, .ref 1900), (1, .ref x1), (2, .ref x2), (3, .ref x3)]) 6 6 dL_law_2592 rfl rfl (Nat.le_of_ble_eq_true rfl) rfl ?_
          refine q_goto hC 23 dL_law_2595 rfl ?_
          exact c_widen (by simp only [rmL_fix, rmX11_fix, rmX11_thrown, rmk, room_1]; omega) (by simp only [rmL_fix, rmX11_fix, rmX11_thrown, rmk, room_1]; omega) (c_sub [3, 4, 5, 6, 0] rfl hJ)
        · refine q_iconst hC dL_law_2074 rfl ?_
          exact q_zret hC dL_law_2075 (by simp only [rmL_fix, rmX11_fix, rmX11_thrown, rmk, room_1]; omega) (by simp only [rmL_fix, rmX11_fix, rmX11_thrown, rmk, room_1]; omega)
      · refine q_lconst hC (v := 1) dL_law_2065 rfl ?_
        refine q_goto hC 2070 dL_law_2066 rfl ?_
        refine q_lcmp hC dL_law_2070 ?_
        refine q_if_eq hC 2076 dL_law_2071 rfl ?_ ?_
        · refine q_goto hC 2592 dL_law_2076 rfl ?_
          refine q_iincA hC (loc' := [(4, .int (x4 + 6)), (6, .int v6), (5, .int v3), (0, .ref 1900), (1, .ref x1), (2, .ref x2), (3, .ref x3)]) 6 6 dL_law_2592 rfl rfl (Nat.le_of_ble_eq_true rfl) rfl ?_
          refine q_goto hC 23 dL_law_2595 rfl ?_
          exact c_widen (by simp only [rmL_fix, rmX11_fix, rmX11_thrown, rmk, room_1]; omega) (by simp only [rmL_fix, rmX11_fix, rmX11_thrown, rmk, room_1]; omega) (c_sub [3, 4, 5, 6, 0] rfl hJ)
        · refine q_iconst hC dL_law_2074 rfl ?_
          exact q_zret hC dL_law_2075 (by simp only [rmL_fix, rmX11_fix, rmX11_thrown, rmk, room_1]; omega) (by simp only [rmL_fix, rmX11_fix, rmX11_thrown, rmk, room_1]; omega)
  · refine q_iconst hC dL_law_2050 rfl ?_
    exact q_zret hC dL_law_2051 (by simp only [rmL_fix, rmX11_fix, rmX11_thrown, rmk, room_1]; omega) (by simp only [rmL_fix, rmX11_fix, rmX11_thrown, rmk, room_1]; omega)
def cl40 (L : Nat) (xs : Nat → Int32) (J : LT) (x1 x2 x3 : Nat) (x4 : Int32) : Sem :=
    sld L xs (x4 + 1) fun v1 =>
    cI SL_free [.ref x1, .int v1, .ref x3] fun v2 =>
    sld L xs (x4 + 1) fun v3 =>
    ob 11 x2 (cI SX11_free [.ref x2, .int v3] fun v4 =>
    ob 11 x2 (cI SX11_thrown [.ref x2] fun v5 =>
    br (v5 = v2)
    (br (v2 = 0)
    (aJ x3 0 fun v6 =>
    br ((lg_cmp v6 (v4.toInt64)) = 0)
    (J x1 x2 x3 (x4 + 6))
    (rZ 0))
    (J x1 x2 x3 (x4 + 6)))
    (rZ 0)))
theorem pcl40 {Γ : CT} (hC : Ctx Γ "SpiritWallLaw" cL_law 9 (some .boolean) room_1) (hnt : NT Γ) (hN : NcA (kS Γ)) {L : Nat} {xs : Nat → Int32} (hX : Scr Γ L xs) (J : LT) {cn sn x1 x2 x3 : Nat} {x4 : Int32} (h1 : cn + 100 ≤ 601024) (h2 : sn + 1000 ≤ 7293034)
    (hJ : Cor Γ 9 (cn + 100) (sn + 1000) 23 [(0, .ref 1900), (1, .ref x1), (2, .ref x2), (3, .ref x3), (4, .int (x4 + 6))] [] (J x1 x2 x3 (x4 + 6))) : Cor Γ 9 cn sn 2079 [(0, .ref 1900), (1, .ref x1), (2, .ref x2), (3, .ref x3), (4, .int x4)] [] (cl40 L xs J x1 x2 x3 x4) := by
  unfold cl40
  refine q_aload_n hC 1 dL_law_2079 rfl rfl ?_
  refine q_aload_n hC 0 dL_law_2080 rfl rfl ?_
  refine q_iload hC 4 dL_law_2081 rfl ?_
  refine q_iconst hC dL_law_2083 rfl ?_
  refine q_iadd hC dL_law_2084 ?_
  refine q_sld hC hX dL_law_2085 (fun v1 => ?_)
  refine q_aload_n hC 3 dL_law_2086 rfl rfl ?_
  refine q_cSXI hC hnt hN (stk := []) (as := [.ref x1, .int v1, .ref x3]) sL_free nL_free (roomOk_of (by simp only [rmL_free, rmX11_free, rmX11_thrown, rmk, room_1]; omega)) w_1715 w_1716 w_1481 w_1717 (Nat.le_of_ble_eq_true rfl) dL_law_2087 rfl (fun v2 => ?_)
  refine q_istoreA hC (loc' := [(5, .int v2), (0, .ref 1900), (1, .ref x1), (2, .ref x2), (3, .ref x3), (4, .int x4)]) dL_law_2090 (Nat.le_of_ble_eq_true rfl) rfl ?_
  refine q_aload_n hC 3 dL_law_2092 rfl rfl ?_
  refine q_aload_n hC 1 dL_law_2093 rfl rfl ?_
  refine q_iload hC 5 dL_law_2094 rfl ?_
  refine q_iconst hC dL_law_2096 rfl ?_
  refine q_iadd hC dL_law_2097 ?_
  refine q_sld hC hX dL_law_2098 (fun v3 => ?_)
  refine q_cVI hC hnt (stk := []) (as := [.int v3]) sX11_free (ci := 11) (by decide) rfl nX11_free (roomOk_of (by simp only [rmL_free, rmX11_free, rmX11_thrown, rmk, room_1]; omega)) w_1711 w_1713 w_1714 w_830 w_1712 (Nat.le_of_ble_eq_true rfl) dL_law_2099 rfl (fun v4 => ?_)
  refine q_istoreA hC (loc' := [(6, .int v4), (5, .int v2), (0, .ref 1900), (1, .ref x1), (2, .ref x2), (3, .ref x3), (4, .int x4)]) dL_law_2102 (Nat.le_of_ble_eq_true rfl) rfl ?_
  refine q_aload_n hC 4 dL_law_2104 rfl rfl ?_
  refine q_cVI hC hnt (stk := []) (as := []) sX11_thrown (ci := 11) (by decide) rfl nX11_thrown (roomOk_of (by simp only [rmL_free, rmX11_free, rmX11_thrown, rmk, room_1]; omega)) w_1475 w_1477 w_1478 w_830 w_1476 (Nat.le_of_ble_eq_true rfl) dL_law_2105 rfl (fun v5 => ?_)
  refine q_iload hC 1 dL_law_2108 rfl ?_
  refine q_ic_eq hC 2115 dL_law_2110 rfl ?_ ?_
  · refine q_iload hC 1 dL_law_2115 rfl ?_
    refine q_if_ne hC 2132 dL_law_2117 rfl ?_ ?_
    · refine q_goto hC 2592 dL_law_2132 rfl ?_
      refine q_iincA hC (loc' := [(4, .int (x4 + 6)), (6, .int v4), (5, .int v2), (0, .ref 1900), (1, .ref x1), (2, .ref x2), (3, .ref x3)]) 6 6 dL_law_2592 rfl rfl (Nat.le_of_ble_eq_true rfl) rfl ?_
      refine q_goto hC 23 dL_law_2595 rfl ?_
      exact c_widen (by simp only [rmL_free, rmX11_free, rmX11_thrown, rmk, room_1]; omega) (by simp only [rmL_free, rmX11_free, rmX11_thrown, rmk, room_1]; omega) (c_sub [3, 4, 5, 6, 0] rfl hJ)
    · refine q_aload_n hC 5 dL_law_2120 rfl rfl ?_
      refine q_iconst hC dL_law_2121 rfl ?_
      refine q_lald hC dL_law_2122 (fun v6 => ?_)
      refine q_iload hC 0 dL_law_2123 rfl ?_
      refine q_i2l hC dL_law_2125 ?_
      refine q_lcmp hC dL_law_2126 ?_
      refine q_if_eq hC 2132 dL_law_2127 rfl ?_ ?_
      · refine q_goto hC 2592 dL_law_2132 rfl ?_
        refine q_iincA hC (loc' := [(4, .int (x4 + 6)), (6, .int v4), (5, .int v2), (0, .ref 1900), (1, .ref x1), (2, .ref x2), (3, .ref x3)]) 6 6 dL_law_2592 rfl rfl (Nat.le_of_ble_eq_true rfl) rfl ?_
        refine q_goto hC 23 dL_law_2595 rfl ?_
        exact c_widen (by simp only [rmL_free, rmX11_free, rmX11_thrown, rmk, room_1]; omega) (by simp only [rmL_free, rmX11_free, rmX11_thrown, rmk, room_1]; omega) (c_sub [3, 4, 5, 6, 0] rfl hJ)
      · refine q_iconst hC dL_law_2130 rfl ?_
        exact q_zret hC dL_law_2131 (by simp only [rmL_free, rmX11_free, rmX11_thrown, rmk, room_1]; omega) (by simp only [rmL_free, rmX11_free, rmX11_thrown, rmk, room_1]; omega)
  · refine q_iconst hC dL_law_2113 rfl ?_
    exact q_zret hC dL_law_2114 (by simp only [rmL_free, rmX11_free, rmX11_thrown, rmk, room_1]; omega) (by simp only [rmL_free, rmX11_free, rmX11_thrown, rmk, room_1]; omega)
def cl41 (L : Nat) (xs : Nat → Int32) (J : LT) (x1 x2 x3 : Nat) (x4 : Int32) : Sem :=
    ob 10 x1 (cI SX10_level [.ref x1] fun v1 =>
    ob 11 x2 (cI SX11_level [.ref x2] fun v2 =>
    br (v1 = v2)
    (J x1 x2 x3 (x4 + 6))
    (rZ 0)))
theorem pcl41 {Γ : CT} (hC : Ctx Γ "SpiritWallLaw" cL_law 9 (some .boolean) room_1) (hnt : NT Γ) (hN : NcA (kS Γ)) {L : Nat} {xs : Nat → Int32} (hX : Scr Γ L xs) (J : LT) {cn sn x1 x2 x3 : Nat} {x4 : Int32} (h1 : cn + 100 ≤ 601024) (h2 : sn + 1000 ≤ 7293034)
    (hJ : Cor Γ 9 (cn + 100) (sn + 1000) 23 [(0, .ref 1900), (1, .ref x1), (2, .ref x2), (3, .ref x3), (4, .int (x4 + 6))] [] (J x1 x2 x3 (x4 + 6))) : Cor Γ 9 cn sn 2135 [(0, .ref 1900), (1, .ref x1), (2, .ref x2), (3, .ref x3), (4, .int x4)] [] (cl41 L xs J x1 x2 x3 x4) := by
  unfold cl41
  refine q_aload_n hC 1 dL_law_2135 rfl rfl ?_
  refine q_cVI hC hnt (stk := []) (as := []) sX10_level (ci := 10) (by decide) rfl nX10_level (roomOk_of (by simp only [rmX10_level, rmX11_level, rmk, room_1]; omega)) w_1718 w_1720 w_1721 w_27 w_1719 (Nat.le_of_ble_eq_true rfl) dL_law_2136 rfl (fun v1 => ?_)
  refine q_aload_n hC 2 dL_law_2139 rfl rfl ?_
  refine q_cVI hC hnt (stk := [.int v1]) (as := []) sX11_level (ci := 11) (by decide) rfl nX11_level (roomOk_of (by simp only [rmX10_level, rmX11_level, rmk, room_1]; omega)) w_1722 w_1724 w_1725 w_830 w_1723 (Nat.le_of_ble_eq_true rfl) dL_law_2140 rfl (fun v2 => ?_)
  refine q_ic_eq hC 2592 dL_law_2143 rfl ?_ ?_
  · refine q_iincA hC (loc' := [(4, .int (x4 + 6)), (0, .ref 1900), (1, .ref x1), (2, .ref x2), (3, .ref x3)]) 4 6 dL_law_2592 rfl rfl (Nat.le_of_ble_eq_true rfl) rfl ?_
    refine q_goto hC 23 dL_law_2595 rfl ?_
    exact c_widen (by simp only [rmX10_level, rmX11_level, rmk, room_1]; omega) (by simp only [rmX10_level, rmX11_level, rmk, room_1]; omega) (c_sub [1, 2, 3, 4, 0] rfl hJ)
  · refine q_iconst hC dL_law_2146 rfl ?_
    exact q_zret hC dL_law_2147 (by simp only [rmX10_level, rmX11_level, rmk, room_1]; omega) (by simp only [rmX10_level, rmX11_level, rmk, room_1]; omega)
def cl42 (L : Nat) (xs : Nat → Int32) (J : LT) (x1 x2 x3 : Nat) (x4 : Int32) : Sem :=
    sld L xs (x4 + 1) fun v1 =>
    cI SL_relax [.ref x1, .int v1, .ref x3] fun v2 =>
    sld L xs (x4 + 1) fun v3 =>
    ob 11 x2 (cI SX11_relax [.ref x2, .int v3] fun v4 =>
    ob 11 x2 (cI SX11_thrown [.ref x2] fun v5 =>
    br (v5 = v2)
    (br (v2 = 0)
    (aJ x3 0 fun v6 =>
    br ((lg_cmp v6 (v4.toInt64)) = 0)
    (J x1 x2 x3 (x4 + 6))
    (rZ 0))
    (J x1 x2 x3 (x4 + 6)))
    (rZ 0)))
theorem pcl42 {Γ : CT} (hC : Ctx Γ "SpiritWallLaw" cL_law 9 (some .boolean) room_1) (hnt : NT Γ) (hN : NcA (kS Γ)) {L : Nat} {xs : Nat → Int32} (hX : Scr Γ L xs) (J : LT) {cn sn x1 x2 x3 : Nat} {x4 : Int32} (h1 : cn + 100 ≤ 601024) (h2 : sn + 1000 ≤ 7293034)
    (hJ : Cor Γ 9 (cn + 100) (sn + 1000) 23 [(0, .ref 1900), (1, .ref x1), (2, .ref x2), (3, .ref x3), (4, .int (x4 + 6))] [] (J x1 x2 x3 (x4 + 6))) : Cor Γ 9 cn sn 2148 [(0, .ref 1900), (1, .ref x1), (2, .ref x2), (3, .ref x3), (4, .int x4)] [] (cl42 L xs J x1 x2 x3 x4) := by
  unfold cl42
  refine q_aload_n hC 1 dL_law_2148 rfl rfl ?_
  refine q_aload_n hC 0 dL_law_2149 rfl rfl ?_
  refine q_iload hC 4 dL_law_2150 rfl ?_
  refine q_iconst hC dL_law_2152 rfl ?_
  refine q_iadd hC dL_law_2153 ?_
  refine q_sld hC hX dL_law_2154 (fun v1 => ?_)
  refine q_aload_n hC 3 dL_law_2155 rfl rfl ?_
  refine q_cSXI hC hnt hN (stk := []) (as := [.ref x1, .int v1, .ref x3]) sL_relax nL_relax (roomOk_of (by simp only [rmL_relax, rmX11_relax, rmX11_thrown, rmk, room_1]; omega)) w_1730 w_1731 w_1481 w_1732 (Nat.le_of_ble_eq_true rfl) dL_law_2156 rfl (fun v2 => ?_)
  refine q_istoreA hC (loc' := [(5, .int v2), (0, .ref 1900), (1, .ref x1), (2, .ref x2), (3, .ref x3), (4, .int x4)]) dL_law_2159 (Nat.le_of_ble_eq_true rfl) rfl ?_
  refine q_aload_n hC 3 dL_law_2161 rfl rfl ?_
  refine q_aload_n hC 1 dL_law_2162 rfl rfl ?_
  refine q_iload hC 5 dL_law_2163 rfl ?_
  refine q_iconst hC dL_law_2165 rfl ?_
  refine q_iadd hC dL_law_2166 ?_
  refine q_sld hC hX dL_law_2167 (fun v3 => ?_)
  refine q_cVI hC hnt (stk := []) (as := [.int v3]) sX11_relax (ci := 11) (by decide) rfl nX11_relax (roomOk_of (by simp only [rmL_relax, rmX11_relax, rmX11_thrown, rmk, room_1]; omega)) w_1726 w_1728 w_1729 w_830 w_1727 (Nat.le_of_ble_eq_true rfl) dL_law_2168 rfl (fun v4 => ?_)
  refine q_istoreA hC (loc' := [(6, .int v4), (5, .int v2), (0, .ref 1900), (1, .ref x1), (2, .ref x2), (3, .ref x3), (4, .int x4)]) dL_law_2171 (Nat.le_of_ble_eq_true rfl) rfl ?_
  refine q_aload_n hC 4 dL_law_2173 rfl rfl ?_
  refine q_cVI hC hnt (stk := []) (as := []) sX11_thrown (ci := 11) (by decide) rfl nX11_thrown (roomOk_of (by simp only [rmL_relax, rmX11_relax, rmX11_thrown, rmk, room_1]; omega)) w_1475 w_1477 w_1478 w_830 w_1476 (Nat.le_of_ble_eq_true rfl) dL_law_2174 rfl (fun v5 => ?_)
  refine q_iload hC 1 dL_law_2177 rfl ?_
  refine q_ic_eq hC 2184 dL_law_2179 rfl ?_ ?_
  · refine q_iload hC 1 dL_law_2184 rfl ?_
    refine q_if_ne hC 2201 dL_law_2186 rfl ?_ ?_
    · refine q_goto hC 2592 dL_law_2201 rfl ?_
      refine q_iincA hC (loc' := [(4, .int (x4 + 6)), (6, .int v4), (5, .int v2), (0, .ref 1900), (1, .ref x1), (2, .ref x2), (3, .ref x3)]) 6 6 dL_law_2592 rfl rfl (Nat.le_of_ble_eq_true rfl) rfl ?_
      refine q_goto hC 23 dL_law_2595 rfl ?_
      exact c_widen (by simp only [rmL_relax, rmX11_relax, rmX11_thrown, rmk, room_1]; omega) (by simp only [rmL_relax, rmX11_relax, rmX11_thrown, rmk, room_1]; omega) (c_sub [3, 4, 5, 6, 0] rfl hJ)
    · refine q_aload_n hC 5 dL_law_2189 rfl rfl ?_
      refine q_iconst hC dL_law_2190 rfl ?_
      refine q_lald hC dL_law_2191 (fun v6 => ?_)
      refine q_iload hC 0 dL_law_2192 rfl ?_
      refine q_i2l hC dL_law_2194 ?_
      refine q_lcmp hC dL_law_2195 ?_
      refine q_if_eq hC 2201 dL_law_2196 rfl ?_ ?_
      · refine q_goto hC 2592 dL_law_2201 rfl ?_
        refine q_iincA hC (loc' := [(4, .int (x4 + 6)), (6, .int v4), (5, .int v2), (0, .ref 1900), (1, .ref x1), (2, .ref x2), (3, .ref x3)]) 6 6 dL_law_2592 rfl rfl (Nat.le_of_ble_eq_true rfl) rfl ?_
        refine q_goto hC 23 dL_law_2595 rfl ?_
        exact c_widen (by simp only [rmL_relax, rmX11_relax, rmX11_thrown, rmk, room_1]; omega) (by simp only [rmL_relax, rmX11_relax, rmX11_thrown, rmk, room_1]; omega) (c_sub [3, 4, 5, 6, 0] rfl hJ)
      · refine q_iconst hC dL_law_2199 rfl ?_
        exact q_zret hC dL_law_2200 (by simp only [rmL_relax, rmX11_relax, rmX11_thrown, rmk, room_1]; omega) (by simp only [rmL_relax, rmX11_relax, rmX11_thrown, rmk, room_1]; omega)
  · refine q_iconst hC dL_law_2182 rfl ?_
    exact q_zret hC dL_law_2183 (by simp only [rmL_relax, rmX11_relax, rmX11_thrown, rmk, room_1]; omega) (by simp only [rmL_relax, rmX11_relax, rmX11_thrown, rmk, room_1]; omega)
def cl43 (L : Nat) (xs : Nat → Int32) (J : LT) (x1 x2 x3 : Nat) (x4 : Int32) : Sem :=
    sld L xs (x4 + 1) fun v1 =>
    cI SL_tellError [.ref x1, .int v1, .ref x3] fun v2 =>
    sld L xs (x4 + 1) fun v3 =>
    ob 11 x2 (cI SX11_tellError [.ref x2, .int v3] fun v4 =>
    ob 11 x2 (cI SX11_thrown [.ref x2] fun v5 =>
    br (v5 = v2)
    (br (v2 = 0)
    (aJ x3 0 fun v6 =>
    br ((lg_cmp v6 (v4.toInt64)) = 0)
    (J x1 x2 x3 (x4 + 6))
    (rZ 0))
    (J x1 x2 x3 (x4 + 6)))
    (rZ 0)))
theorem pcl43 {Γ : CT} (hC : Ctx Γ "SpiritWallLaw" cL_law 9 (some .boolean) room_1) (hnt : NT Γ) (hN : NcA (kS Γ)) {L : Nat} {xs : Nat → Int32} (hX : Scr Γ L xs) (J : LT) {cn sn x1 x2 x3 : Nat} {x4 : Int32} (h1 : cn + 100 ≤ 601024) (h2 : sn + 1000 ≤ 7293034)
    (hJ : Cor Γ 9 (cn + 100) (sn + 1000) 23 [(0, .ref 1900), (1, .ref x1), (2, .ref x2), (3, .ref x3), (4, .int (x4 + 6))] [] (J x1 x2 x3 (x4 + 6))) : Cor Γ 9 cn sn 2204 [(0, .ref 1900), (1, .ref x1), (2, .ref x2), (3, .ref x3), (4, .int x4)] [] (cl43 L xs J x1 x2 x3 x4) := by
  unfold cl43
  refine q_aload_n hC 1 dL_law_2204 rfl rfl ?_
  refine q_aload_n hC 0 dL_law_2205 rfl rfl ?_
  refine q_iload hC 4 dL_law_2206 rfl ?_
  refine q_iconst hC dL_law_2208 rfl ?_
  refine q_iadd hC dL_law_2209 ?_
  refine q_sld hC hX dL_law_2210 (fun v1 => ?_)
  refine q_aload_n hC 3 dL_law_2211 rfl rfl ?_
  refine q_cSXI hC hnt hN (stk := []) (as := [.ref x1, .int v1, .ref x3]) sL_tellError nL_tellError (roomOk_of (by simp only [rmL_tellError, rmX11_tellError, rmX11_thrown, rmk, room_1]; omega)) w_1737 w_1738 w_1481 w_1739 (Nat.le_of_ble_eq_true rfl) dL_law_2212 rfl (fun v2 => ?_)
  refine q_istoreA hC (loc' := [(5, .int v2), (0, .ref 1900), (1, .ref x1), (2, .ref x2), (3, .ref x3), (4, .int x4)]) dL_law_2215 (Nat.le_of_ble_eq_true rfl) rfl ?_
  refine q_aload_n hC 3 dL_law_2217 rfl rfl ?_
  refine q_aload_n hC 1 dL_law_2218 rfl rfl ?_
  refine q_iload hC 5 dL_law_2219 rfl ?_
  refine q_iconst hC dL_law_2221 rfl ?_
  refine q_iadd hC dL_law_2222 ?_
  refine q_sld hC hX dL_law_2223 (fun v3 => ?_)
  refine q_cVI hC hnt (stk := []) (as := [.int v3]) sX11_tellError (ci := 11) (by decide) rfl nX11_tellError (roomOk_of (by simp only [rmL_tellError, rmX11_tellError, rmX11_thrown, rmk, room_1]; omega)) w_1733 w_1735 w_1736 w_830 w_1734 (Nat.le_of_ble_eq_true rfl) dL_law_2224 rfl (fun v4 => ?_)
  refine q_istoreA hC (loc' := [(6, .int v4), (5, .int v2), (0, .ref 1900), (1, .ref x1), (2, .ref x2), (3, .ref x3), (4, .int x4)]) dL_law_2227 (Nat.le_of_ble_eq_true rfl) rfl ?_
  refine q_aload_n hC 4 dL_law_2229 rfl rfl ?_
  refine q_cVI hC hnt (stk := []) (as := []) sX11_thrown (ci := 11) (by decide) rfl nX11_thrown (roomOk_of (by simp only [rmL_tellError, rmX11_tellError, rmX11_thrown, rmk, room_1]; omega)) w_1475 w_1477 w_1478 w_830 w_1476 (Nat.le_of_ble_eq_true rfl) dL_law_2230 rfl (fun v5 => ?_)
  refine q_iload hC 1 dL_law_2233 rfl ?_
  refine q_ic_eq hC 2240 dL_law_2235 rfl ?_ ?_
  · refine q_iload hC 1 dL_law_2240 rfl ?_
    refine q_if_ne hC 2257 dL_law_2242 rfl ?_ ?_
    · refine q_goto hC 2592 dL_law_2257 rfl ?_
      refine q_iincA hC (loc' := [(4, .int (x4 + 6)), (6, .int v4), (5, .int v2), (0, .ref 1900), (1, .ref x1), (2, .ref x2), (3, .ref x3)]) 6 6 dL_law_2592 rfl rfl (Nat.le_of_ble_eq_true rfl) rfl ?_
      refine q_goto hC 23 dL_law_2595 rfl ?_
      exact c_widen (by simp only [rmL_tellError, rmX11_tellError, rmX11_thrown, rmk, room_1]; omega) (by simp only [rmL_tellError, rmX11_tellError, rmX11_thrown, rmk, room_1]; omega) (c_sub [3, 4, 5, 6, 0] rfl hJ)
    · refine q_aload_n hC 5 dL_law_2245 rfl rfl ?_
      refine q_iconst hC dL_law_2246 rfl ?_
      refine q_lald hC dL_law_2247 (fun v6 => ?_)
      refine q_iload hC 0 dL_law_2248 rfl ?_
      refine q_i2l hC dL_law_2250 ?_
      refine q_lcmp hC dL_law_2251 ?_
      refine q_if_eq hC 2257 dL_law_2252 rfl ?_ ?_
      · refine q_goto hC 2592 dL_law_2257 rfl ?_
        refine q_iincA hC (loc' := [(4, .int (x4 + 6)), (6, .int v4), (5, .int v2), (0, .ref 1900), (1, .ref x1), (2, .ref x2), (3, .ref x3)]) 6 6 dL_law_2592 rfl rfl (Nat.le_of_ble_eq_true rfl) rfl ?_
        refine q_goto hC 23 dL_law_2595 rfl ?_
        exact c_widen (by simp only [rmL_tellError, rmX11_tellError, rmX11_thrown, rmk, room_1]; omega) (by simp only [rmL_tellError, rmX11_tellError, rmX11_thrown, rmk, room_1]; omega) (c_sub [3, 4, 5, 6, 0] rfl hJ)
      · refine q_iconst hC dL_law_2255 rfl ?_
        exact q_zret hC dL_law_2256 (by simp only [rmL_tellError, rmX11_tellError, rmX11_thrown, rmk, room_1]; omega) (by simp only [rmL_tellError, rmX11_tellError, rmX11_thrown, rmk, room_1]; omega)
  · refine q_iconst hC dL_law_2238 rfl ?_
    exact q_zret hC dL_law_2239 (by simp only [rmL_tellError, rmX11_tellError, rmX11_thrown, rmk, room_1]; omega) (by simp only [rmL_tellError, rmX11_tellError, rmX11_thrown, rmk, room_1]; omega)
def cl44 (L : Nat) (xs : Nat → Int32) (J : LT) (x1 x2 x3 : Nat) (x4 : Int32) : Sem :=
    ob 10 x1 (cI SX10_findError [.ref x1] fun v1 =>
    ob 11 x2 (cI SX11_findError [.ref x2] fun v2 =>
    br (v1 = v2)
    (J x1 x2 x3 (x4 + 6))
    (rZ 0)))
theorem pcl44 {Γ : CT} (hC : Ctx Γ "SpiritWallLaw" cL_law 9 (some .boolean) room_1) (hnt : NT Γ) (hN : NcA (kS Γ)) {L : Nat} {xs : Nat → Int32} (hX : Scr Γ L xs) (J : LT) {cn sn x1 x2 x3 : Nat} {x4 : Int32} (h1 : cn + 100 ≤ 601024) (h2 : sn + 1000 ≤ 7293034)
    (hJ : Cor Γ 9 (cn + 100) (sn + 1000) 23 [(0, .ref 1900), (1, .ref x1), (2, .ref x2), (3, .ref x3), (4, .int (x4 + 6))] [] (J x1 x2 x3 (x4 + 6))) : Cor Γ 9 cn sn 2260 [(0, .ref 1900), (1, .ref x1), (2, .ref x2), (3, .ref x3), (4, .int x4)] [] (cl44 L xs J x1 x2 x3 x4) := by
  unfold cl44
  refine q_aload_n hC 1 dL_law_2260 rfl rfl ?_
  refine q_cVI hC hnt (stk := []) (as := []) sX10_findError (ci := 10) (by decide) rfl nX10_findError (roomOk_of (by simp only [rmX10_findError, rmX11_findError, rmk, room_1]; omega)) w_1740 w_1742 w_1743 w_27 w_1741 (Nat.le_of_ble_eq_true rfl) dL_law_2261 rfl (fun v1 => ?_)
  refine q_aload_n hC 2 dL_law_2264 rfl rfl ?_
  refine q_cVI hC hnt (stk := [.int v1]) (as := []) sX11_findError (ci := 11) (by decide) rfl nX11_findError (roomOk_of (by simp only [rmX10_findError, rmX11_findError, rmk, room_1]; omega)) w_1744 w_1746 w_1747 w_830 w_1745 (Nat.le_of_ble_eq_true rfl) dL_law_2265 rfl (fun v2 => ?_)
  refine q_ic_eq hC 2592 dL_law_2268 rfl ?_ ?_
  · refine q_iincA hC (loc' := [(4, .int (x4 + 6)), (0, .ref 1900), (1, .ref x1), (2, .ref x2), (3, .ref x3)]) 4 6 dL_law_2592 rfl rfl (Nat.le_of_ble_eq_true rfl) rfl ?_
    refine q_goto hC 23 dL_law_2595 rfl ?_
    exact c_widen (by simp only [rmX10_findError, rmX11_findError, rmk, room_1]; omega) (by simp only [rmX10_findError, rmX11_findError, rmk, room_1]; omega) (c_sub [1, 2, 3, 4, 0] rfl hJ)
  · refine q_iconst hC dL_law_2271 rfl ?_
    exact q_zret hC dL_law_2272 (by simp only [rmX10_findError, rmX11_findError, rmk, room_1]; omega) (by simp only [rmX10_findError, rmX11_findError, rmk, room_1]; omega)
def cl45 (L : Nat) (xs : Nat → Int32) (J : LT) (x1 x2 x3 : Nat) (x4 : Int32) : Sem :=
    sld L xs (x4 + 1) fun v1 =>
    sld L xs (x4 + 2) fun v2 =>
    cI SL_set [.ref x1, .int v1, .int v2, .ref x3] fun v3 =>
    sld L xs (x4 + 1) fun v4 =>
    sld L xs (x4 + 2) fun v5 =>
    ob 11 x2 (cI SX11_set [.ref x2, .int v4, .int v5] fun v6 =>
    ob 11 x2 (cI SX11_thrown [.ref x2] fun v7 =>
    br (v7 = v3)
    (br (v3 = 0)
    (aJ x3 0 fun v8 =>
    br ((lg_cmp v8 (v6.toInt64)) = 0)
    (J x1 x2 x3 (x4 + 6))
    (rZ 0))
    (J x1 x2 x3 (x4 + 6)))
    (rZ 0)))
theorem pcl45 {Γ : CT} (hC : Ctx Γ "SpiritWallLaw" cL_law 9 (some .boolean) room_1) (hnt : NT Γ) (hN : NcA (kS Γ)) {L : Nat} {xs : Nat → Int32} (hX : Scr Γ L xs) (J : LT) {cn sn x1 x2 x3 : Nat} {x4 : Int32} (h1 : cn + 100 ≤ 601024) (h2 : sn + 1000 ≤ 7293034)
    (hJ : Cor Γ 9 (cn + 100) (sn + 1000) 23 [(0, .ref 1900), (1, .ref x1), (2, .ref x2), (3, .ref x3), (4, .int (x4 + 6))] [] (J x1 x2 x3 (x4 + 6))) : Cor Γ 9 cn sn 2273 [(0, .ref 1900), (1, .ref x1), (2, .ref x2), (3, .ref x3), (4, .int x4)] [] (cl45 L xs J x1 x2 x3 x4) := by
  unfold cl45
  refine q_aload_n hC 1 dL_law_2273 rfl rfl ?_
  refine q_aload_n hC 0 dL_law_2274 rfl rfl ?_
  refine q_iload hC 4 dL_law_2275 rfl ?_
  refine q_iconst hC dL_law_2277 rfl ?_
  refine q_iadd hC dL_law_2278 ?_
  refine q_sld hC hX dL_law_2279 (fun v1 => ?_)
  refine q_aload_n hC 0 dL_law_2280 rfl rfl ?_
  refine q_iload hC 4 dL_law_2281 rfl ?_
  refine q_iconst hC dL_law_2283 rfl ?_
  refine q_iadd hC dL_law_2284 ?_
  refine q_sld hC hX dL_law_2285 (fun v2 => ?_)
  refine q_aload_n hC 3 dL_law_2286 rfl rfl ?_
  refine q_cSXI hC hnt hN (stk := []) (as := [.ref x1, .int v1, .int v2, .ref x3]) sL_set nL_set (roomOk_of (by simp only [rmL_set, rmX11_set, rmX11_thrown, rmk, room_1]; omega)) w_1752 w_1753 w_1481 w_1754 (Nat.le_of_ble_eq_true rfl) dL_law_2287 rfl (fun v3 => ?_)
  refine q_istoreA hC (loc' := [(5, .int v3), (0, .ref 1900), (1, .ref x1), (2, .ref x2), (3, .ref x3), (4, .int x4)]) dL_law_2290 (Nat.le_of_ble_eq_true rfl) rfl ?_
  refine q_aload_n hC 3 dL_law_2292 rfl rfl ?_
  refine q_aload_n hC 1 dL_law_2293 rfl rfl ?_
  refine q_iload hC 5 dL_law_2294 rfl ?_
  refine q_iconst hC dL_law_2296 rfl ?_
  refine q_iadd hC dL_law_2297 ?_
  refine q_sld hC hX dL_law_2298 (fun v4 => ?_)
  refine q_aload_n hC 1 dL_law_2299 rfl rfl ?_
  refine q_iload hC 5 dL_law_2300 rfl ?_
  refine q_iconst hC dL_law_2302 rfl ?_
  refine q_iadd hC dL_law_2303 ?_
  refine q_sld hC hX dL_law_2304 (fun v5 => ?_)
  refine q_cVI hC hnt (stk := []) (as := [.int v4, .int v5]) sX11_set (ci := 11) (by decide) rfl nX11_set (roomOk_of (by simp only [rmL_set, rmX11_set, rmX11_thrown, rmk, room_1]; omega)) w_1748 w_1750 w_1751 w_830 w_1749 (Nat.le_of_ble_eq_true rfl) dL_law_2305 rfl (fun v6 => ?_)
  refine q_istoreA hC (loc' := [(6, .int v6), (5, .int v3), (0, .ref 1900), (1, .ref x1), (2, .ref x2), (3, .ref x3), (4, .int x4)]) dL_law_2308 (Nat.le_of_ble_eq_true rfl) rfl ?_
  refine q_aload_n hC 4 dL_law_2310 rfl rfl ?_
  refine q_cVI hC hnt (stk := []) (as := []) sX11_thrown (ci := 11) (by decide) rfl nX11_thrown (roomOk_of (by simp only [rmL_set, rmX11_set, rmX11_thrown, rmk, room_1]; omega)) w_1475 w_1477 w_1478 w_830 w_1476 (Nat.le_of_ble_eq_true rfl) dL_law_2311 rfl (fun v7 => ?_)
  refine q_iload hC 1 dL_law_2314 rfl ?_
  refine q_ic_eq hC 2321 dL_law_2316 rfl ?_ ?_
  · refine q_iload hC 1 dL_law_2321 rfl ?_
    refine q_if_ne hC 2338 dL_law_2323 rfl ?_ ?_
    · refine q_goto hC 2592 dL_law_2338 rfl ?_
      refine q_iincA hC (loc' := [(4, .int (x4 + 6)), (6, .int v6), (5, .int v3), (0, .ref 1900), (1, .ref x1), (2, .ref x2), (3, .ref x3)]) 6 6 dL_law_2592 rfl rfl (Nat.le_of_ble_eq_true rfl) rfl ?_
      refine q_goto hC 23 dL_law_2595 rfl ?_
      exact c_widen (by simp only [rmL_set, rmX11_set, rmX11_thrown, rmk, room_1]; omega) (by simp only [rmL_set, rmX11_set, rmX11_thrown, rmk, room_1]; omega) (c_sub [3, 4, 5, 6, 0] rfl hJ)
    · refine q_aload_n hC 5 dL_law_2326 rfl rfl ?_
      refine q_iconst hC dL_law_2327 rfl ?_
      refine q_lald hC dL_law_2328 (fun v8 => ?_)
      refine q_iload hC 0 dL_law_2329 rfl ?_
      refine q_i2l hC dL_law_2331 ?_
      refine q_lcmp hC dL_law_2332 ?_
      refine q_if_eq hC 2338 dL_law_2333 rfl ?_ ?_
      · refine q_goto hC 2592 dL_law_2338 rfl ?_
        refine q_iincA hC (loc' := [(4, .int (x4 + 6)), (6, .int v6), (5, .int v3), (0, .ref 1900), (1, .ref x1), (2, .ref x2), (3, .ref x3)]) 6 6 dL_law_2592 rfl rfl (Nat.le_of_ble_eq_true rfl) rfl ?_
        refine q_goto hC 23 dL_law_2595 rfl ?_
        exact c_widen (by simp only [rmL_set, rmX11_set, rmX11_thrown, rmk, room_1]; omega) (by simp only [rmL_set, rmX11_set, rmX11_thrown, rmk, room_1]; omega) (c_sub [3, 4, 5, 6, 0] rfl hJ)
      · refine q_iconst hC dL_law_2336 rfl ?_
        exact q_zret hC dL_law_2337 (by simp only [rmL_set, rmX11_set, rmX11_thrown, rmk, room_1]; omega) (by simp only [rmL_set, rmX11_set, rmX11_thrown, rmk, room_1]; omega)
  · refine q_iconst hC dL_law_2319 rfl ?_
    exact q_zret hC dL_law_2320 (by simp only [rmL_set, rmX11_set, rmX11_thrown, rmk, room_1]; omega) (by simp only [rmL_set, rmX11_set, rmX11_thrown, rmk, room_1]; omega)
def cl46 (L : Nat) (xs : Nat → Int32) (J : LT) (x1 x2 x3 : Nat) (x4 : Int32) : Sem :=
    cI SL_undo [.ref x1, .ref x3] fun v1 =>
    ob 11 x2 (cI SX11_undo [.ref x2] fun v2 =>
    ob 11 x2 (cI SX11_thrown [.ref x2] fun v3 =>
    br (v3 = v1)
    (br (v1 = 0)
    (aJ x3 0 fun v4 =>
    br ((lg_cmp v4 (v2.toInt64)) = 0)
    (J x1 x2 x3 (x4 + 6))
    (rZ 0))
    (J x1 x2 x3 (x4 + 6)))
    (rZ 0)))
theorem pcl46 {Γ : CT} (hC : Ctx Γ "SpiritWallLaw" cL_law 9 (some .boolean) room_1) (hnt : NT Γ) (hN : NcA (kS Γ)) {L : Nat} {xs : Nat → Int32} (hX : Scr Γ L xs) (J : LT) {cn sn x1 x2 x3 : Nat} {x4 : Int32} (h1 : cn + 100 ≤ 601024) (h2 : sn + 1000 ≤ 7293034)
    (hJ : Cor Γ 9 (cn + 100) (sn + 1000) 23 [(0, .ref 1900), (1, .ref x1), (2, .ref x2), (3, .ref x3), (4, .int (x4 + 6))] [] (J x1 x2 x3 (x4 + 6))) : Cor Γ 9 cn sn 2341 [(0, .ref 1900), (1, .ref x1), (2, .ref x2), (3, .ref x3), (4, .int x4)] [] (cl46 L xs J x1 x2 x3 x4) := by
  unfold cl46
  refine q_aload_n hC 1 dL_law_2341 rfl rfl ?_
  refine q_aload_n hC 3 dL_law_2342 rfl rfl ?_
  refine q_cSXI hC hnt hN (stk := []) (as := [.ref x1, .ref x3]) sL_undo nL_undo (roomOk_of (by simp only [rmL_undo, rmX11_thrown, rmX11_undo, rmk, room_1]; omega)) w_1759 w_1760 w_1481 w_1761 (Nat.le_of_ble_eq_true rfl) dL_law_2343 rfl (fun v1 => ?_)
  refine q_istoreA hC (loc' := [(5, .int v1), (0, .ref 1900), (1, .ref x1), (2, .ref x2), (3, .ref x3), (4, .int x4)]) dL_law_2346 (Nat.le_of_ble_eq_true rfl) rfl ?_
  refine q_aload_n hC 3 dL_law_2348 rfl rfl ?_
  refine q_cVI hC hnt (stk := []) (as := []) sX11_undo (ci := 11) (by decide) rfl nX11_undo (roomOk_of (by simp only [rmL_undo, rmX11_thrown, rmX11_undo, rmk, room_1]; omega)) w_1755 w_1757 w_1758 w_830 w_1756 (Nat.le_of_ble_eq_true rfl) dL_law_2349 rfl (fun v2 => ?_)
  refine q_istoreA hC (loc' := [(6, .int v2), (5, .int v1), (0, .ref 1900), (1, .ref x1), (2, .ref x2), (3, .ref x3), (4, .int x4)]) dL_law_2352 (Nat.le_of_ble_eq_true rfl) rfl ?_
  refine q_aload_n hC 4 dL_law_2354 rfl rfl ?_
  refine q_cVI hC hnt (stk := []) (as := []) sX11_thrown (ci := 11) (by decide) rfl nX11_thrown (roomOk_of (by simp only [rmL_undo, rmX11_thrown, rmX11_undo, rmk, room_1]; omega)) w_1475 w_1477 w_1478 w_830 w_1476 (Nat.le_of_ble_eq_true rfl) dL_law_2355 rfl (fun v3 => ?_)
  refine q_iload hC 1 dL_law_2358 rfl ?_
  refine q_ic_eq hC 2365 dL_law_2360 rfl ?_ ?_
  · refine q_iload hC 1 dL_law_2365 rfl ?_
    refine q_if_ne hC 2382 dL_law_2367 rfl ?_ ?_
    · refine q_goto hC 2592 dL_law_2382 rfl ?_
      refine q_iincA hC (loc' := [(4, .int (x4 + 6)), (6, .int v2), (5, .int v1), (0, .ref 1900), (1, .ref x1), (2, .ref x2), (3, .ref x3)]) 6 6 dL_law_2592 rfl rfl (Nat.le_of_ble_eq_true rfl) rfl ?_
      refine q_goto hC 23 dL_law_2595 rfl ?_
      exact c_widen (by simp only [rmL_undo, rmX11_thrown, rmX11_undo, rmk, room_1]; omega) (by simp only [rmL_undo, rmX11_thrown, rmX11_undo, rmk, room_1]; omega) (c_sub [3, 4, 5, 6, 0] rfl hJ)
    · refine q_aload_n hC 5 dL_law_2370 rfl rfl ?_
      refine q_iconst hC dL_law_2371 rfl ?_
      refine q_lald hC dL_law_2372 (fun v4 => ?_)
      refine q_iload hC 0 dL_law_2373 rfl ?_
      refine q_i2l hC dL_law_2375 ?_
      refine q_lcmp hC dL_law_2376 ?_
      refine q_if_eq hC 2382 dL_law_2377 rfl ?_ ?_
      · refine q_goto hC 2592 dL_law_2382 rfl ?_
        refine q_iincA hC (loc' := [(4, .int (x4 + 6)), (6, .int v2), (5, .int v1), (0, .ref 1900), (1, .ref x1), (2, .ref x2), (3, .ref x3)]) 6 6 dL_law_2592 rfl rfl (Nat.le_of_ble_eq_true rfl) rfl ?_
        refine q_goto hC 23 dL_law_2595 rfl ?_
        exact c_widen (by simp only [rmL_undo, rmX11_thrown, rmX11_undo, rmk, room_1]; omega) (by simp only [rmL_undo, rmX11_thrown, rmX11_undo, rmk, room_1]; omega) (c_sub [3, 4, 5, 6, 0] rfl hJ)
      · refine q_iconst hC dL_law_2380 rfl ?_
        exact q_zret hC dL_law_2381 (by simp only [rmL_undo, rmX11_thrown, rmX11_undo, rmk, room_1]; omega) (by simp only [rmL_undo, rmX11_thrown, rmX11_undo, rmk, room_1]; omega)
  · refine q_iconst hC dL_law_2363 rfl ?_
    exact q_zret hC dL_law_2364 (by simp only [rmL_undo, rmX11_thrown, rmX11_undo, rmk, room_1]; omega) (by simp only [rmL_undo, rmX11_thrown, rmX11_undo, rmk, room_1]; omega)
def cl47 (L : Nat) (xs : Nat → Int32) (J : LT) (x1 x2 x3 : Nat) (x4 : Int32) : Sem :=
    ob 10 x1 (cI SX10_printMarks [.ref x1] fun v1 =>
    ob 11 x2 (cI SX11_printMarks [.ref x2] fun v2 =>
    br (v1 = v2)
    (J x1 x2 x3 (x4 + 6))
    (rZ 0)))
theorem pcl47 {Γ : CT} (hC : Ctx Γ "SpiritWallLaw" cL_law 9 (some .boolean) room_1) (hnt : NT Γ) (hN : NcA (kS Γ)) {L : Nat} {xs : Nat → Int32} (hX : Scr Γ L xs) (J : LT) {cn sn x1 x2 x3 : Nat} {x4 : Int32} (h1 : cn + 100 ≤ 601024) (h2 : sn + 1000 ≤ 7293034)
    (hJ : Cor Γ 9 (cn + 100) (sn + 1000) 23 [(0, .ref 1900), (1, .ref x1), (2, .ref x2), (3, .ref x3), (4, .int (x4 + 6))] [] (J x1 x2 x3 (x4 + 6))) : Cor Γ 9 cn sn 2385 [(0, .ref 1900), (1, .ref x1), (2, .ref x2), (3, .ref x3), (4, .int x4)] [] (cl47 L xs J x1 x2 x3 x4) := by
  unfold cl47
  refine q_aload_n hC 1 dL_law_2385 rfl rfl ?_
  refine q_cVI hC hnt (stk := []) (as := []) sX10_printMarks (ci := 10) (by decide) rfl nX10_printMarks (roomOk_of (by simp only [rmX10_printMarks, rmX11_printMarks, rmk, room_1]; omega)) w_1762 w_1764 w_1765 w_27 w_1763 (Nat.le_of_ble_eq_true rfl) dL_law_2386 rfl (fun v1 => ?_)
  refine q_aload_n hC 2 dL_law_2389 rfl rfl ?_
  refine q_cVI hC hnt (stk := [.int v1]) (as := []) sX11_printMarks (ci := 11) (by decide) rfl nX11_printMarks (roomOk_of (by simp only [rmX10_printMarks, rmX11_printMarks, rmk, room_1]; omega)) w_1766 w_1768 w_1769 w_830 w_1767 (Nat.le_of_ble_eq_true rfl) dL_law_2390 rfl (fun v2 => ?_)
  refine q_ic_eq hC 2592 dL_law_2393 rfl ?_ ?_
  · refine q_iincA hC (loc' := [(4, .int (x4 + 6)), (0, .ref 1900), (1, .ref x1), (2, .ref x2), (3, .ref x3)]) 4 6 dL_law_2592 rfl rfl (Nat.le_of_ble_eq_true rfl) rfl ?_
    refine q_goto hC 23 dL_law_2595 rfl ?_
    exact c_widen (by simp only [rmX10_printMarks, rmX11_printMarks, rmk, room_1]; omega) (by simp only [rmX10_printMarks, rmX11_printMarks, rmk, room_1]; omega) (c_sub [1, 2, 3, 4, 0] rfl hJ)
  · refine q_iconst hC dL_law_2396 rfl ?_
    exact q_zret hC dL_law_2397 (by simp only [rmX10_printMarks, rmX11_printMarks, rmk, room_1]; omega) (by simp only [rmX10_printMarks, rmX11_printMarks, rmk, room_1]; omega)
def cl48 (L : Nat) (xs : Nat → Int32) (J : LT) (x1 x2 x3 : Nat) (x4 : Int32) : Sem :=
    sld L xs (x4 + 1) fun v1 =>
    cI SL_printLoop [.ref x1, .int v1, .ref x3] fun v2 =>
    sld L xs (x4 + 1) fun v3 =>
    ob 11 x2 (cI SX11_printLoop [.ref x2, .int v3] fun v4 =>
    ob 11 x2 (cI SX11_thrown [.ref x2] fun v5 =>
    br (v5 = v2)
    (br (v2 = 0)
    (aJ x3 0 fun v6 =>
    br ((lg_cmp v6 (v4.toInt64)) = 0)
    (J x1 x2 x3 (x4 + 6))
    (rZ 0))
    (J x1 x2 x3 (x4 + 6)))
    (rZ 0)))
theorem pcl48 {Γ : CT} (hC : Ctx Γ "SpiritWallLaw" cL_law 9 (some .boolean) room_1) (hnt : NT Γ) (hN : NcA (kS Γ)) {L : Nat} {xs : Nat → Int32} (hX : Scr Γ L xs) (J : LT) {cn sn x1 x2 x3 : Nat} {x4 : Int32} (h1 : cn + 100 ≤ 601024) (h2 : sn + 1000 ≤ 7293034)
    (hJ : Cor Γ 9 (cn + 100) (sn + 1000) 23 [(0, .ref 1900), (1, .ref x1), (2, .ref x2), (3, .ref x3), (4, .int (x4 + 6))] [] (J x1 x2 x3 (x4 + 6))) : Cor Γ 9 cn sn 2398 [(0, .ref 1900), (1, .ref x1), (2, .ref x2), (3, .ref x3), (4, .int x4)] [] (cl48 L xs J x1 x2 x3 x4) := by
  unfold cl48
  refine q_aload_n hC 1 dL_law_2398 rfl rfl ?_
  refine q_aload_n hC 0 dL_law_2399 rfl rfl ?_
  refine q_iload hC 4 dL_law_2400 rfl ?_
  refine q_iconst hC dL_law_2402 rfl ?_
  refine q_iadd hC dL_law_2403 ?_
  refine q_sld hC hX dL_law_2404 (fun v1 => ?_)
  refine q_aload_n hC 3 dL_law_2405 rfl rfl ?_
  refine q_cSXI hC hnt hN (stk := []) (as := [.ref x1, .int v1, .ref x3]) sL_printLoop nL_printLoop (roomOk_of (by simp only [rmL_printLoop, rmX11_printLoop, rmX11_thrown, rmk, room_1]; omega)) w_1774 w_1775 w_1481 w_1776 (Nat.le_of_ble_eq_true rfl) dL_law_2406 rfl (fun v2 => ?_)
  refine q_istoreA hC (loc' := [(5, .int v2), (0, .ref 1900), (1, .ref x1), (2, .ref x2), (3, .ref x3), (4, .int x4)]) dL_law_2409 (Nat.le_of_ble_eq_true rfl) rfl ?_
  refine q_aload_n hC 3 dL_law_2411 rfl rfl ?_
  refine q_aload_n hC 1 dL_law_2412 rfl rfl ?_
  refine q_iload hC 5 dL_law_2413 rfl ?_
  refine q_iconst hC dL_law_2415 rfl ?_
  refine q_iadd hC dL_law_2416 ?_
  refine q_sld hC hX dL_law_2417 (fun v3 => ?_)
  refine q_cVI hC hnt (stk := []) (as := [.int v3]) sX11_printLoop (ci := 11) (by decide) rfl nX11_printLoop (roomOk_of (by simp only [rmL_printLoop, rmX11_printLoop, rmX11_thrown, rmk, room_1]; omega)) w_1770 w_1772 w_1773 w_830 w_1771 (Nat.le_of_ble_eq_true rfl) dL_law_2418 rfl (fun v4 => ?_)
  refine q_istoreA hC (loc' := [(6, .int v4), (5, .int v2), (0, .ref 1900), (1, .ref x1), (2, .ref x2), (3, .ref x3), (4, .int x4)]) dL_law_2421 (Nat.le_of_ble_eq_true rfl) rfl ?_
  refine q_aload_n hC 4 dL_law_2423 rfl rfl ?_
  refine q_cVI hC hnt (stk := []) (as := []) sX11_thrown (ci := 11) (by decide) rfl nX11_thrown (roomOk_of (by simp only [rmL_printLoop, rmX11_printLoop, rmX11_thrown, rmk, room_1]; omega)) w_1475 w_1477 w_1478 w_830 w_1476 (Nat.le_of_ble_eq_true rfl) dL_law_2424 rfl (fun v5 => ?_)
  refine q_iload hC 1 dL_law_2427 rfl ?_
  refine q_ic_eq hC 2434 dL_law_2429 rfl ?_ ?_
  · refine q_iload hC 1 dL_law_2434 rfl ?_
    refine q_if_ne hC 2451 dL_law_2436 rfl ?_ ?_
    · refine q_goto hC 2592 dL_law_2451 rfl ?_
      refine q_iincA hC (loc' := [(4, .int (x4 + 6)), (6, .int v4), (5, .int v2), (0, .ref 1900), (1, .ref x1), (2, .ref x2), (3, .ref x3)]) 6 6 dL_law_2592 rfl rfl (Nat.le_of_ble_eq_true rfl) rfl ?_
      refine q_goto hC 23 dL_law_2595 rfl ?_
      exact c_widen (by simp only [rmL_printLoop, rmX11_printLoop, rmX11_thrown, rmk, room_1]; omega) (by simp only [rmL_printLoop, rmX11_printLoop, rmX11_thrown, rmk, room_1]; omega) (c_sub [3, 4, 5, 6, 0] rfl hJ)
    · refine q_aload_n hC 5 dL_law_2439 rfl rfl ?_
      refine q_iconst hC dL_law_2440 rfl ?_
      refine q_lald hC dL_law_2441 (fun v6 => ?_)
      refine q_iload hC 0 dL_law_2442 rfl ?_
      refine q_i2l hC dL_law_2444 ?_
      refine q_lcmp hC dL_law_2445 ?_
      refine q_if_eq hC 2451 dL_law_2446 rfl ?_ ?_
      · refine q_goto hC 2592 dL_law_2451 rfl ?_
        refine q_iincA hC (loc' := [(4, .int (x4 + 6)), (6, .int v4), (5, .int v2), (0, .ref 1900), (1, .ref x1), (2, .ref x2), (3, .ref x3)]) 6 6 dL_law_2592 rfl rfl (Nat.le_of_ble_eq_true rfl) rfl ?_
        refine q_goto hC 23 dL_law_2595 rfl ?_
        exact c_widen (by simp only [rmL_printLoop, rmX11_printLoop, rmX11_thrown, rmk, room_1]; omega) (by simp only [rmL_printLoop, rmX11_printLoop, rmX11_thrown, rmk, room_1]; omega) (c_sub [3, 4, 5, 6, 0] rfl hJ)
      · refine q_iconst hC dL_law_2449 rfl ?_
        exact q_zret hC dL_law_2450 (by simp only [rmL_printLoop, rmX11_printLoop, rmX11_thrown, rmk, room_1]; omega) (by simp only [rmL_printLoop, rmX11_printLoop, rmX11_thrown, rmk, room_1]; omega)
  · refine q_iconst hC dL_law_2432 rfl ?_
    exact q_zret hC dL_law_2433 (by simp only [rmL_printLoop, rmX11_printLoop, rmX11_thrown, rmk, room_1]; omega) (by simp only [rmL_printLoop, rmX11_printLoop, rmX11_thrown, rmk, room_1]; omega)
def cl49 (L : Nat) (xs : Nat → Int32) (J : LT) (x1 x2 x3 : Nat) (x4 : Int32) : Sem :=
    sld L xs (x4 + 1) fun v1 =>
    cI SL_printSight [.ref x1, .int v1, .ref x3] fun v2 =>
    sld L xs (x4 + 1) fun v3 =>
    ob 11 x2 (cI SX11_printSight [.ref x2, .int v3] fun v4 =>
    ob 11 x2 (cI SX11_thrown [.ref x2] fun v5 =>
    br (v5 = v2)
    (br (v2 = 0)
    (aJ x3 0 fun v6 =>
    br ((lg_cmp v6 (v4.toInt64)) = 0)
    (J x1 x2 x3 (x4 + 6))
    (rZ 0))
    (J x1 x2 x3 (x4 + 6)))
    (rZ 0)))
theorem pcl49 {Γ : CT} (hC : Ctx Γ "SpiritWallLaw" cL_law 9 (some .boolean) room_1) (hnt : NT Γ) (hN : NcA (kS Γ)) {L : Nat} {xs : Nat → Int32} (hX : Scr Γ L xs) (J : LT) {cn sn x1 x2 x3 : Nat} {x4 : Int32} (h1 : cn + 100 ≤ 601024) (h2 : sn + 1000 ≤ 7293034)
    (hJ : Cor Γ 9 (cn + 100) (sn + 1000) 23 [(0, .ref 1900), (1, .ref x1), (2, .ref x2), (3, .ref x3), (4, .int (x4 + 6))] [] (J x1 x2 x3 (x4 + 6))) : Cor Γ 9 cn sn 2454 [(0, .ref 1900), (1, .ref x1), (2, .ref x2), (3, .ref x3), (4, .int x4)] [] (cl49 L xs J x1 x2 x3 x4) := by
  unfold cl49
  refine q_aload_n hC 1 dL_law_2454 rfl rfl ?_
  refine q_aload_n hC 0 dL_law_2455 rfl rfl ?_
  refine q_iload hC 4 dL_law_2456 rfl ?_
  refine q_iconst hC dL_law_2458 rfl ?_
  refine q_iadd hC dL_law_2459 ?_
  refine q_sld hC hX dL_law_2460 (fun v1 => ?_)
  refine q_aload_n hC 3 dL_law_2461 rfl rfl ?_
  refine q_cSXI hC hnt hN (stk := []) (as := [.ref x1, .int v1, .ref x3]) sL_printSight nL_printSight (roomOk_of (by simp only [rmL_printSight, rmX11_printSight, rmX11_thrown, rmk, room_1]; omega)) w_1781 w_1782 w_1481 w_1783 (Nat.le_of_ble_eq_true rfl) dL_law_2462 rfl (fun v2 => ?_)
  refine q_istoreA hC (loc' := [(5, .int v2), (0, .ref 1900), (1, .ref x1), (2, .ref x2), (3, .ref x3), (4, .int x4)]) dL_law_2465 (Nat.le_of_ble_eq_true rfl) rfl ?_
  refine q_aload_n hC 3 dL_law_2467 rfl rfl ?_
  refine q_aload_n hC 1 dL_law_2468 rfl rfl ?_
  refine q_iload hC 5 dL_law_2469 rfl ?_
  refine q_iconst hC dL_law_2471 rfl ?_
  refine q_iadd hC dL_law_2472 ?_
  refine q_sld hC hX dL_law_2473 (fun v3 => ?_)
  refine q_cVI hC hnt (stk := []) (as := [.int v3]) sX11_printSight (ci := 11) (by decide) rfl nX11_printSight (roomOk_of (by simp only [rmL_printSight, rmX11_printSight, rmX11_thrown, rmk, room_1]; omega)) w_1777 w_1779 w_1780 w_830 w_1778 (Nat.le_of_ble_eq_true rfl) dL_law_2474 rfl (fun v4 => ?_)
  refine q_istoreA hC (loc' := [(6, .int v4), (5, .int v2), (0, .ref 1900), (1, .ref x1), (2, .ref x2), (3, .ref x3), (4, .int x4)]) dL_law_2477 (Nat.le_of_ble_eq_true rfl) rfl ?_
  refine q_aload_n hC 4 dL_law_2479 rfl rfl ?_
  refine q_cVI hC hnt (stk := []) (as := []) sX11_thrown (ci := 11) (by decide) rfl nX11_thrown (roomOk_of (by simp only [rmL_printSight, rmX11_printSight, rmX11_thrown, rmk, room_1]; omega)) w_1475 w_1477 w_1478 w_830 w_1476 (Nat.le_of_ble_eq_true rfl) dL_law_2480 rfl (fun v5 => ?_)
  refine q_iload hC 1 dL_law_2483 rfl ?_
  refine q_ic_eq hC 2490 dL_law_2485 rfl ?_ ?_
  · refine q_iload hC 1 dL_law_2490 rfl ?_
    refine q_if_ne hC 2507 dL_law_2492 rfl ?_ ?_
    · refine q_goto hC 2592 dL_law_2507 rfl ?_
      refine q_iincA hC (loc' := [(4, .int (x4 + 6)), (6, .int v4), (5, .int v2), (0, .ref 1900), (1, .ref x1), (2, .ref x2), (3, .ref x3)]) 6 6 dL_law_2592 rfl rfl (Nat.le_of_ble_eq_true rfl) rfl ?_
      refine q_goto hC 23 dL_law_2595 rfl ?_
      exact c_widen (by simp only [rmL_printSight, rmX11_printSight, rmX11_thrown, rmk, room_1]; omega) (by simp only [rmL_printSight, rmX11_printSight, rmX11_thrown, rmk, room_1]; omega) (c_sub [3, 4, 5, 6, 0] rfl hJ)
    · refine q_aload_n hC 5 dL_law_2495 rfl rfl ?_
      refine q_iconst hC dL_law_2496 rfl ?_
      refine q_lald hC dL_law_2497 (fun v6 => ?_)
      refine q_iload hC 0 dL_law_2498 rfl ?_
      refine q_i2l hC dL_law_2500 ?_
      refine q_lcmp hC dL_law_2501 ?_
      refine q_if_eq hC 2507 dL_law_2502 rfl ?_ ?_
      · refine q_goto hC 2592 dL_law_2507 rfl ?_
        refine q_iincA hC (loc' := [(4, .int (x4 + 6)), (6, .int v4), (5, .int v2), (0, .ref 1900), (1, .ref x1), (2, .ref x2), (3, .ref x3)]) 6 6 dL_law_2592 rfl rfl (Nat.le_of_ble_eq_true rfl) rfl ?_
        refine q_goto hC 23 dL_law_2595 rfl ?_
        exact c_widen (by simp only [rmL_printSight, rmX11_printSight, rmX11_thrown, rmk, room_1]; omega) (by simp only [rmL_printSight, rmX11_printSight, rmX11_thrown, rmk, room_1]; omega) (c_sub [3, 4, 5, 6, 0] rfl hJ)
      · refine q_iconst hC dL_law_2505 rfl ?_
        exact q_zret hC dL_law_2506 (by simp only [rmL_printSight, rmX11_printSight, rmX11_thrown, rmk, room_1]; omega) (by simp only [rmL_printSight, rmX11_printSight, rmX11_thrown, rmk, room_1]; omega)
  · refine q_iconst hC dL_law_2488 rfl ?_
    exact q_zret hC dL_law_2489 (by simp only [rmL_printSight, rmX11_printSight, rmX11_thrown, rmk, room_1]; omega) (by simp only [rmL_printSight, rmX11_printSight, rmX11_thrown, rmk, room_1]; omega)
def cl50 (L : Nat) (xs : Nat → Int32) (J : LT) (x1 x2 x3 : Nat) (x4 : Int32) : Sem :=
    sld L xs (x4 + 1) fun v1 =>
    ob 10 x1 (cI SX10_outputByte [.ref x1, .int v1] fun v2 =>
    sld L xs (x4 + 1) fun v3 =>
    ob 11 x2 (cI SX11_outputByte [.ref x2, .int v3] fun v4 =>
    br (v2 = v4)
    (J x1 x2 x3 (x4 + 6))
    (rZ 0)))
theorem pcl50 {Γ : CT} (hC : Ctx Γ "SpiritWallLaw" cL_law 9 (some .boolean) room_1) (hnt : NT Γ) (hN : NcA (kS Γ)) {L : Nat} {xs : Nat → Int32} (hX : Scr Γ L xs) (J : LT) {cn sn x1 x2 x3 : Nat} {x4 : Int32} (h1 : cn + 100 ≤ 601024) (h2 : sn + 1000 ≤ 7293034)
    (hJ : Cor Γ 9 (cn + 100) (sn + 1000) 23 [(0, .ref 1900), (1, .ref x1), (2, .ref x2), (3, .ref x3), (4, .int (x4 + 6))] [] (J x1 x2 x3 (x4 + 6))) : Cor Γ 9 cn sn 2510 [(0, .ref 1900), (1, .ref x1), (2, .ref x2), (3, .ref x3), (4, .int x4)] [] (cl50 L xs J x1 x2 x3 x4) := by
  unfold cl50
  refine q_aload_n hC 1 dL_law_2510 rfl rfl ?_
  refine q_aload_n hC 0 dL_law_2511 rfl rfl ?_
  refine q_iload hC 4 dL_law_2512 rfl ?_
  refine q_iconst hC dL_law_2514 rfl ?_
  refine q_iadd hC dL_law_2515 ?_
  refine q_sld hC hX dL_law_2516 (fun v1 => ?_)
  refine q_cVI hC hnt (stk := []) (as := [.int v1]) sX10_outputByte (ci := 10) (by decide) rfl nX10_outputByte (roomOk_of (by simp only [rmX10_outputByte, rmX11_outputByte, rmk, room_1]; omega)) w_1784 w_1786 w_1787 w_27 w_1785 (Nat.le_of_ble_eq_true rfl) dL_law_2517 rfl (fun v2 => ?_)
  refine q_aload_n hC 2 dL_law_2520 rfl rfl ?_
  refine q_aload_n hC 0 dL_law_2521 rfl rfl ?_
  refine q_iload hC 4 dL_law_2522 rfl ?_
  refine q_iconst hC dL_law_2524 rfl ?_
  refine q_iadd hC dL_law_2525 ?_
  refine q_sld hC hX dL_law_2526 (fun v3 => ?_)
  refine q_cVI hC hnt (stk := [.int v2]) (as := [.int v3]) sX11_outputByte (ci := 11) (by decide) rfl nX11_outputByte (roomOk_of (by simp only [rmX10_outputByte, rmX11_outputByte, rmk, room_1]; omega)) w_1788 w_1790 w_1791 w_830 w_1789 (Nat.le_of_ble_eq_true rfl) dL_law_2527 rfl (fun v4 => ?_)
  refine q_ic_eq hC 2592 dL_law_2530 rfl ?_ ?_
  · refine q_iincA hC (loc' := [(4, .int (x4 + 6)), (0, .ref 1900), (1, .ref x1), (2, .ref x2), (3, .ref x3)]) 4 6 dL_law_2592 rfl rfl (Nat.le_of_ble_eq_true rfl) rfl ?_
    refine q_goto hC 23 dL_law_2595 rfl ?_
    exact c_widen (by simp only [rmX10_outputByte, rmX11_outputByte, rmk, room_1]; omega) (by simp only [rmX10_outputByte, rmX11_outputByte, rmk, room_1]; omega) (c_sub [1, 2, 3, 4, 0] rfl hJ)
  · refine q_iconst hC dL_law_2533 rfl ?_
    exact q_zret hC dL_law_2534 (by simp only [rmX10_outputByte, rmX11_outputByte, rmk, room_1]; omega) (by simp only [rmX10_outputByte, rmX11_outputByte, rmk, room_1]; omega)
def cl51 (L : Nat) (xs : Nat → Int32) (J : LT) (x1 x2 x3 : Nat) (x4 : Int32) : Sem :=
    ob 10 x1 (cI SX10_saveState [.ref x1] fun v1 =>
    ob 11 x2 (cI SX11_saveState [.ref x2] fun v2 =>
    br (v1 = v2)
    (J x1 x2 x3 (x4 + 6))
    (rZ 0)))
theorem pcl51 {Γ : CT} (hC : Ctx Γ "SpiritWallLaw" cL_law 9 (some .boolean) room_1) (hnt : NT Γ) (hN : NcA (kS Γ)) {L : Nat} {xs : Nat → Int32} (hX : Scr Γ L xs) (J : LT) {cn sn x1 x2 x3 : Nat} {x4 : Int32} (h1 : cn + 100 ≤ 601024) (h2 : sn + 1000 ≤ 7293034)
    (hJ : Cor Γ 9 (cn + 100) (sn + 1000) 23 [(0, .ref 1900), (1, .ref x1), (2, .ref x2), (3, .ref x3), (4, .int (x4 + 6))] [] (J x1 x2 x3 (x4 + 6))) : Cor Γ 9 cn sn 2535 [(0, .ref 1900), (1, .ref x1), (2, .ref x2), (3, .ref x3), (4, .int x4)] [] (cl51 L xs J x1 x2 x3 x4) := by
  unfold cl51
  refine q_aload_n hC 1 dL_law_2535 rfl rfl ?_
  refine q_cVI hC hnt (stk := []) (as := []) sX10_saveState (ci := 10) (by decide) rfl nX10_saveState (roomOk_of (by simp only [rmX10_saveState, rmX11_saveState, rmk, room_1]; omega)) w_1792 w_1794 w_1795 w_27 w_1793 (Nat.le_of_ble_eq_true rfl) dL_law_2536 rfl (fun v1 => ?_)
  refine q_aload_n hC 2 dL_law_2539 rfl rfl ?_
  refine q_cVI hC hnt (stk := [.int v1]) (as := []) sX11_saveState (ci := 11) (by decide) rfl nX11_saveState (roomOk_of (by simp only [rmX10_saveState, rmX11_saveState, rmk, room_1]; omega)) w_1796 w_1798 w_1799 w_830 w_1797 (Nat.le_of_ble_eq_true rfl) dL_law_2540 rfl (fun v2 => ?_)
  refine q_ic_eq hC 2592 dL_law_2543 rfl ?_ ?_
  · refine q_iincA hC (loc' := [(4, .int (x4 + 6)), (0, .ref 1900), (1, .ref x1), (2, .ref x2), (3, .ref x3)]) 4 6 dL_law_2592 rfl rfl (Nat.le_of_ble_eq_true rfl) rfl ?_
    refine q_goto hC 23 dL_law_2595 rfl ?_
    exact c_widen (by simp only [rmX10_saveState, rmX11_saveState, rmk, room_1]; omega) (by simp only [rmX10_saveState, rmX11_saveState, rmk, room_1]; omega) (c_sub [1, 2, 3, 4, 0] rfl hJ)
  · refine q_iconst hC dL_law_2546 rfl ?_
    exact q_zret hC dL_law_2547 (by simp only [rmX10_saveState, rmX11_saveState, rmk, room_1]; omega) (by simp only [rmX10_saveState, rmX11_saveState, rmk, room_1]; omega)
def cl52 (L : Nat) (xs : Nat → Int32) (J : LT) (x1 x2 x3 : Nat) (x4 : Int32) : Sem :=
    cI SL_restoreState [.ref x1, .ref x3] fun v1 =>
    ob 11 x2 (cI SX11_restoreState [.ref x2] fun v2 =>
    ob 11 x2 (cI SX11_thrown [.ref x2] fun v3 =>
    br (v3 = v1)
    (br (v1 = 0)
    (aJ x3 0 fun v4 =>
    br ((lg_cmp v4 (v2.toInt64)) = 0)
    (J x1 x2 x3 (x4 + 6))
    (rZ 0))
    (J x1 x2 x3 (x4 + 6)))
    (rZ 0)))
theorem pcl52 {Γ : CT} (hC : Ctx Γ "SpiritWallLaw" cL_law 9 (some .boolean) room_1) (hnt : NT Γ) (hN : NcA (kS Γ)) {L : Nat} {xs : Nat → Int32} (hX : Scr Γ L xs) (J : LT) {cn sn x1 x2 x3 : Nat} {x4 : Int32} (h1 : cn + 100 ≤ 601024) (h2 : sn + 1000 ≤ 7293034)
    (hJ : Cor Γ 9 (cn + 100) (sn + 1000) 23 [(0, .ref 1900), (1, .ref x1), (2, .ref x2), (3, .ref x3), (4, .int (x4 + 6))] [] (J x1 x2 x3 (x4 + 6))) : Cor Γ 9 cn sn 2548 [(0, .ref 1900), (1, .ref x1), (2, .ref x2), (3, .ref x3), (4, .int x4)] [] (cl52 L xs J x1 x2 x3 x4) := by
  unfold cl52
  refine q_aload_n hC 1 dL_law_2548 rfl rfl ?_
  refine q_aload_n hC 3 dL_law_2549 rfl rfl ?_
  refine q_cSXI hC hnt hN (stk := []) (as := [.ref x1, .ref x3]) sL_restoreState nL_restoreState (roomOk_of (by simp only [rmL_restoreState, rmX11_restoreState, rmX11_thrown, rmk, room_1]; omega)) w_1804 w_1805 w_1481 w_1806 (Nat.le_of_ble_eq_true rfl) dL_law_2550 rfl (fun v1 => ?_)
  refine q_istoreA hC (loc' := [(5, .int v1), (0, .ref 1900), (1, .ref x1), (2, .ref x2), (3, .ref x3), (4, .int x4)]) dL_law_2553 (Nat.le_of_ble_eq_true rfl) rfl ?_
  refine q_aload_n hC 3 dL_law_2555 rfl rfl ?_
  refine q_cVI hC hnt (stk := []) (as := []) sX11_restoreState (ci := 11) (by decide) rfl nX11_restoreState (roomOk_of (by simp only [rmL_restoreState, rmX11_restoreState, rmX11_thrown, rmk, room_1]; omega)) w_1800 w_1802 w_1803 w_830 w_1801 (Nat.le_of_ble_eq_true rfl) dL_law_2556 rfl (fun v2 => ?_)
  refine q_istoreA hC (loc' := [(6, .int v2), (5, .int v1), (0, .ref 1900), (1, .ref x1), (2, .ref x2), (3, .ref x3), (4, .int x4)]) dL_law_2559 (Nat.le_of_ble_eq_true rfl) rfl ?_
  refine q_aload_n hC 4 dL_law_2561 rfl rfl ?_
  refine q_cVI hC hnt (stk := []) (as := []) sX11_thrown (ci := 11) (by decide) rfl nX11_thrown (roomOk_of (by simp only [rmL_restoreState, rmX11_restoreState, rmX11_thrown, rmk, room_1]; omega)) w_1475 w_1477 w_1478 w_830 w_1476 (Nat.le_of_ble_eq_true rfl) dL_law_2562 rfl (fun v3 => ?_)
  refine q_iload hC 1 dL_law_2565 rfl ?_
  refine q_ic_eq hC 2572 dL_law_2567 rfl ?_ ?_
  · refine q_iload hC 1 dL_law_2572 rfl ?_
    refine q_if_ne hC 2589 dL_law_2574 rfl ?_ ?_
    · refine q_goto hC 2592 dL_law_2589 rfl ?_
      refine q_iincA hC (loc' := [(4, .int (x4 + 6)), (6, .int v2), (5, .int v1), (0, .ref 1900), (1, .ref x1), (2, .ref x2), (3, .ref x3)]) 6 6 dL_law_2592 rfl rfl (Nat.le_of_ble_eq_true rfl) rfl ?_
      refine q_goto hC 23 dL_law_2595 rfl ?_
      exact c_widen (by simp only [rmL_restoreState, rmX11_restoreState, rmX11_thrown, rmk, room_1]; omega) (by simp only [rmL_restoreState, rmX11_restoreState, rmX11_thrown, rmk, room_1]; omega) (c_sub [3, 4, 5, 6, 0] rfl hJ)
    · refine q_aload_n hC 5 dL_law_2577 rfl rfl ?_
      refine q_iconst hC dL_law_2578 rfl ?_
      refine q_lald hC dL_law_2579 (fun v4 => ?_)
      refine q_iload hC 0 dL_law_2580 rfl ?_
      refine q_i2l hC dL_law_2582 ?_
      refine q_lcmp hC dL_law_2583 ?_
      refine q_if_eq hC 2589 dL_law_2584 rfl ?_ ?_
      · refine q_goto hC 2592 dL_law_2589 rfl ?_
        refine q_iincA hC (loc' := [(4, .int (x4 + 6)), (6, .int v2), (5, .int v1), (0, .ref 1900), (1, .ref x1), (2, .ref x2), (3, .ref x3)]) 6 6 dL_law_2592 rfl rfl (Nat.le_of_ble_eq_true rfl) rfl ?_
        refine q_goto hC 23 dL_law_2595 rfl ?_
        exact c_widen (by simp only [rmL_restoreState, rmX11_restoreState, rmX11_thrown, rmk, room_1]; omega) (by simp only [rmL_restoreState, rmX11_restoreState, rmX11_thrown, rmk, room_1]; omega) (c_sub [3, 4, 5, 6, 0] rfl hJ)
      · refine q_iconst hC dL_law_2587 rfl ?_
        exact q_zret hC dL_law_2588 (by simp only [rmL_restoreState, rmX11_restoreState, rmX11_thrown, rmk, room_1]; omega) (by simp only [rmL_restoreState, rmX11_restoreState, rmX11_thrown, rmk, room_1]; omega)
  · refine q_iconst hC dL_law_2570 rfl ?_
    exact q_zret hC dL_law_2571 (by simp only [rmL_restoreState, rmX11_restoreState, rmX11_thrown, rmk, room_1]; omega) (by simp only [rmL_restoreState, rmX11_restoreState, rmX11_thrown, rmk, room_1]; omega)
def cl53 (L : Nat) (xs : Nat → Int32) (J : LT) (x1 x2 x3 : Nat) (x4 : Int32) : Sem :=
    J x1 x2 x3 (x4 + 6)
theorem pcl53 {Γ : CT} (hC : Ctx Γ "SpiritWallLaw" cL_law 9 (some .boolean) room_1) (hnt : NT Γ) (hN : NcA (kS Γ)) {L : Nat} {xs : Nat → Int32} (hX : Scr Γ L xs) (J : LT) {cn sn x1 x2 x3 : Nat} {x4 : Int32} (h1 : cn + 100 ≤ 601024) (h2 : sn + 1000 ≤ 7293034)
    (hJ : Cor Γ 9 (cn + 100) (sn + 1000) 23 [(0, .ref 1900), (1, .ref x1), (2, .ref x2), (3, .ref x3), (4, .int (x4 + 6))] [] (J x1 x2 x3 (x4 + 6))) : Cor Γ 9 cn sn 2592 [(0, .ref 1900), (1, .ref x1), (2, .ref x2), (3, .ref x3), (4, .int x4)] [] (cl53 L xs J x1 x2 x3 x4) := by
  unfold cl53
  refine q_iincA hC (loc' := [(4, .int (x4 + 6)), (0, .ref 1900), (1, .ref x1), (2, .ref x2), (3, .ref x3)]) 4 6 dL_law_2592 rfl rfl (Nat.le_of_ble_eq_true rfl) rfl ?_
  refine q_goto hC 23 dL_law_2595 rfl ?_
  exact c_widen (by omega) (by omega) (c_sub [1, 2, 3, 4, 0] rfl hJ)
