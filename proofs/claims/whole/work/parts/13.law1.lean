section LK
variable {p : Program} {l : Launch} {e : Env} {s : State} {m : MethodId} {args : Array Value} {below : List Frame} {meth : Method} {c : Code} {H : Heap} {locs : List Loc} {Q : State → Prop}
variable {ls : Array Slot} {G : LG} {b0 : Nat} {V : St} {ret0 : Option FieldType} {kc ks b L : Nat} {xs : Nat → Int32} {x5 : Int32}
set_option maxHeartbeats 4000000 in
set_option maxRecDepth 100000 in
theorem kc_18 (hfl : l.stackTraces = false) (C : Cx p l s m args meth c G b0 R_own cL_law 9 ret0) (hX : va_X b L xs s s.heap) (hbl : b < s.heap.size) (hbA : ¬ Ab b0 b) (hc : kc + 1 ≤ room_1.cells ∧ ks + 6 ≤ room_1.slots) (hV : Hd G b0 V H) (hS : va_S (Ab b0) s.heap H locs) (hl : lv_has ls 9 [(0, .ref b), (1, .ref (b0 + 0)), (2, .ref (b0 + 208)), (3, .ref (b0 + 216)), (4, .ref (b0 + 217)), (5, .int x5)]) {y1 : Int32} (h1 : Sc xs L (x5 + 1) y1) {y2 : Int32} (h2 : Sc xs L (x5 + 2) y2) {V1 : St} (hr : k_18 V y1 y2 = some V1)
    (kk : ∀ (H1 : Heap) (locs1 : List Loc) (ls : Array Slot), Hd G b0 V1 H1 → va_S (Ab b0) s.heap H1 locs1 → lv_has ls 9 [(0, .ref b), (1, .ref (b0 + 0)), (2, .ref (b0 + 208)), (3, .ref (b0 + 216)), (4, .ref (b0 + 217)), (5, .int x5)] → W p l e room_1 s m args below meth c H1 locs1 (kc + 1) (ks + 6) Q (F0 m 2366 ls [])) : W p l e room_1 s m args below meth c H locs kc ks Q (F0 m 1435 ls []) := by
  obtain ⟨hx, hb, hrt, hml, hown, hts, hlocks, hK, hSv⟩ := id C
  unfold k_18 at hr
  refine lv_aload_n hx hb dL_law_1435 rfl (lv_at hl 1 rfl) ?_
  refine lv_aload_n hx hb dL_law_1436 rfl (lv_at hl 0 rfl) ?_
  refine lv_iload hx hb dL_law_1437 (lv_at hl 5 rfl) ?_
  refine lv_iconst (v := 1) hx hb dL_law_1439 (by decide) ?_
  refine lv_iadd hx hb dL_law_1440 ?_
  refine r_sld hx hb hX hbl hbA hS h1 dL_law_1441 ?_
  refine lv_aload_n hx hb dL_law_1442 rfl (lv_at hl 0 rfl) ?_
  refine lv_iload hx hb dL_law_1443 (lv_at hl 5 rfl) ?_
  refine lv_iconst (v := 2) hx hb dL_law_1445 (by decide) ?_
  refine lv_iadd hx hb dL_law_1446 ?_
  refine r_sld hx hb hX hbl hbA hS h2 dL_law_1447 ?_
  refine lv_aload_n hx hb dL_law_1448 rfl (lv_at hl 3 rfl) ?_
  obtain ⟨q1, e1, hr⟩ := ob hr
  refine cal_h (run_H (As := [.ref (b0 + 0), .int y1, .int y2, .ref (b0 + 216)]) (rest := []) C hV hS (c_L_ranked l hfl G b0 V y1 y2 q1 e1) q_1046 q_1047 q_140 q_1048 dk_L_ranked (by decide) hl.1 rfl (Nat.le_of_ble_eq_true rfl) dL_law_1449 hc) hS (fun H locs hV hS => ?_)
  refine lv_istore (lv' := [(6, .int q1.1), (0, .ref b), (1, .ref (b0 + 0)), (2, .ref (b0 + 208)), (3, .ref (b0 + 216)), (4, .ref (b0 + 217)), (5, .int x5)]) hx hb dL_law_1452 hl (by decide) rfl (fun ls hl => ?_)
  refine lv_aload_n hx hb dL_law_1454 rfl (lv_at hl 3 rfl) ?_
  refine lv_aload_n hx hb dL_law_1455 rfl (lv_at hl 1 rfl) ?_
  refine lv_iload hx hb dL_law_1456 (lv_at hl 6 rfl) ?_
  refine lv_iconst (v := 1) hx hb dL_law_1458 (by decide) ?_
  refine lv_iadd hx hb dL_law_1459 ?_
  refine r_sld hx hb hX hbl hbA hS h1 dL_law_1460 ?_
  refine lv_aload_n hx hb dL_law_1461 rfl (lv_at hl 1 rfl) ?_
  refine lv_iload hx hb dL_law_1462 (lv_at hl 6 rfl) ?_
  refine lv_iconst (v := 2) hx hb dL_law_1464 (by decide) ?_
  refine lv_iadd hx hb dL_law_1465 ?_
  refine r_sld hx hb hX hbl hbA hS h2 dL_law_1466 ?_
  obtain ⟨q2, e2, hr⟩ := ob hr
  refine cal_i (run_V (As := [.int y1, .int y2]) (rest := []) C hV hS (c_X10_ranked l G b0 q1.2 y1 y2 q2 e2) (rcv hK hV (kd_lt z_208 (by decide)) (cel_20 z_208) rfl) q_1700 q_1701 q_1702 q_151 q_1703 dk_X10_ranked (by decide) hl.1 rfl (Nat.le_of_ble_eq_true rfl) dL_law_1467 hc) hS (fun H locs hV hS => ?_)
  refine lv_istore (lv' := [(7, .int q2.1), (6, .int q1.1), (0, .ref b), (1, .ref (b0 + 0)), (2, .ref (b0 + 208)), (3, .ref (b0 + 216)), (4, .ref (b0 + 217)), (5, .int x5)]) hx hb dL_law_1470 hl (by decide) rfl (fun ls hl => ?_)
  refine lv_aload_n hx hb dL_law_1472 rfl (lv_at hl 4 rfl) ?_
  obtain ⟨q3, e3, hr⟩ := ob hr
  refine cal_i (run_V (As := []) (rest := []) C hV hS (c_X10_thrown l G b0 q2.2 q3 e3) (rcv hK hV (kd_lt z_208 (by decide)) (cel_20 z_208) rfl) q_1470 q_1471 q_1472 q_151 q_1473 dk_X10_thrown (by decide) hl.1 rfl (Nat.le_of_ble_eq_true rfl) dL_law_1473 hc) hS (fun H locs hV hS => ?_)
  refine lv_iload hx hb dL_law_1476 (lv_at hl 1 rfl) ?_
  refine lv_icmp_eq (tgt := 1483) hx hb dL_law_1478 (by decide) (fun b_4 => ?_) (fun b_4 => ?_)
  · have hr := it b_4 hr
    refine lv_iload hx hb dL_law_1483 (lv_at hl 1 rfl) ?_
    refine lv_if_ne (tgt := 1500) hx hb dL_law_1485 (by decide) (fun b_5 => ?_) (fun b_5 => ?_)
    · have hr := ie b_5 hr
      refine lv_goto (tgt := 2366) hx hb dL_law_1500 (by decide) ?_
      obtain rfl := Option.some.inj hr
      exact kk _ _ ls hV hS (lv_sub hl [2, 3, 4, 5, 6, 7] rfl)
    · have hr := it b_5 hr
      refine lv_aload_n hx hb dL_law_1488 rfl (lv_at hl 5 rfl) ?_
      refine lv_iconst (v := 0) hx hb dL_law_1489 (by decide) ?_
      refine a_28 C hV dL_law_1490 ?_
      refine lv_iload hx hb dL_law_1491 (lv_at hl 0 rfl) ?_
      refine lv_i2l (v := (q2.1).toInt64) hx hb dL_law_1493 rfl ?_
      refine r_lcmp (x := q2.2 216 0) (y := q2.1) hx hb dL_law_1494 ?_
      refine lv_if_eq (tgt := 1500) hx hb dL_law_1495 (by decide) (fun b_6 => ?_) (fun b_6 => ?_)
      · have hr := it b_6 hr
        refine lv_goto (tgt := 2366) hx hb dL_law_1500 (by decide) ?_
        obtain rfl := Option.some.inj hr
        exact kk _ _ ls hV hS (lv_sub hl [2, 3, 4, 5, 6, 7] rfl)
      · have hr := ie b_6 hr
        cases hr
  · have hr := ie b_4 hr
    cases hr
set_option maxHeartbeats 4000000 in
set_option maxRecDepth 100000 in
theorem kc_19 (hfl : l.stackTraces = false) (C : Cx p l s m args meth c G b0 R_own cL_law 9 ret0) (hX : va_X b L xs s s.heap) (hbl : b < s.heap.size) (hbA : ¬ Ab b0 b) (hc : kc + 1 ≤ room_1.cells ∧ ks + 6 ≤ room_1.slots) (hV : Hd G b0 V H) (hS : va_S (Ab b0) s.heap H locs) (hl : lv_has ls 9 [(0, .ref b), (1, .ref (b0 + 0)), (2, .ref (b0 + 208)), (3, .ref (b0 + 216)), (4, .ref (b0 + 217)), (5, .int x5)]) {y1 : Int32} (h1 : Sc xs L (x5 + 1) y1) {y2 : Int32} (h2 : Sc xs L (x5 + 2) y2) {V1 : St} (hr : k_19 V y1 y2 = some V1)
    (kk : ∀ (H1 : Heap) (locs1 : List Loc) (ls : Array Slot), Hd G b0 V1 H1 → va_S (Ab b0) s.heap H1 locs1 → lv_has ls 9 [(0, .ref b), (1, .ref (b0 + 0)), (2, .ref (b0 + 208)), (3, .ref (b0 + 216)), (4, .ref (b0 + 217)), (5, .int x5)] → W p l e room_1 s m args below meth c H1 locs1 (kc + 1) (ks + 6) Q (F0 m 2366 ls [])) : W p l e room_1 s m args below meth c H locs kc ks Q (F0 m 1503 ls []) := by
  obtain ⟨hx, hb, hrt, hml, hown, hts, hlocks, hK, hSv⟩ := id C
  unfold k_19 at hr
  refine lv_aload_n hx hb dL_law_1503 rfl (lv_at hl 1 rfl) ?_
  refine lv_aload_n hx hb dL_law_1504 rfl (lv_at hl 0 rfl) ?_
  refine lv_iload hx hb dL_law_1505 (lv_at hl 5 rfl) ?_
  refine lv_iconst (v := 1) hx hb dL_law_1507 (by decide) ?_
  refine lv_iadd hx hb dL_law_1508 ?_
  refine r_sld hx hb hX hbl hbA hS h1 dL_law_1509 ?_
  refine lv_aload_n hx hb dL_law_1510 rfl (lv_at hl 0 rfl) ?_
  refine lv_iload hx hb dL_law_1511 (lv_at hl 5 rfl) ?_
  refine lv_iconst (v := 2) hx hb dL_law_1513 (by decide) ?_
  refine lv_iadd hx hb dL_law_1514 ?_
  refine r_sld hx hb hX hbl hbA hS h2 dL_law_1515 ?_
  refine lv_aload_n hx hb dL_law_1516 rfl (lv_at hl 3 rfl) ?_
  obtain ⟨q1, e1, hr⟩ := ob hr
  refine cal_h (run_H (As := [.ref (b0 + 0), .int y1, .int y2, .ref (b0 + 216)]) (rest := []) C hV hS (c_L_editorOf l hfl G b0 V y1 y2 q1 e1) q_1059 q_1060 q_140 q_1061 dk_L_editorOf (by decide) hl.1 rfl (Nat.le_of_ble_eq_true rfl) dL_law_1517 hc) hS (fun H locs hV hS => ?_)
  refine lv_istore (lv' := [(6, .int q1.1), (0, .ref b), (1, .ref (b0 + 0)), (2, .ref (b0 + 208)), (3, .ref (b0 + 216)), (4, .ref (b0 + 217)), (5, .int x5)]) hx hb dL_law_1520 hl (by decide) rfl (fun ls hl => ?_)
  refine lv_aload_n hx hb dL_law_1522 rfl (lv_at hl 3 rfl) ?_
  refine lv_aload_n hx hb dL_law_1523 rfl (lv_at hl 1 rfl) ?_
  refine lv_iload hx hb dL_law_1524 (lv_at hl 6 rfl) ?_
  refine lv_iconst (v := 1) hx hb dL_law_1526 (by decide) ?_
  refine lv_iadd hx hb dL_law_1527 ?_
  refine r_sld hx hb hX hbl hbA hS h1 dL_law_1528 ?_
  refine lv_aload_n hx hb dL_law_1529 rfl (lv_at hl 1 rfl) ?_
  refine lv_iload hx hb dL_law_1530 (lv_at hl 6 rfl) ?_
  refine lv_iconst (v := 2) hx hb dL_law_1532 (by decide) ?_
  refine lv_iadd hx hb dL_law_1533 ?_
  refine r_sld hx hb hX hbl hbA hS h2 dL_law_1534 ?_
  obtain ⟨q2, e2, hr⟩ := ob hr
  refine cal_i (run_V (As := [.int y1, .int y2]) (rest := []) C hV hS (c_X10_editorOf l G b0 q1.2 y1 y2 q2 e2) (rcv hK hV (kd_lt z_208 (by decide)) (cel_20 z_208) rfl) q_1704 q_1705 q_1706 q_151 q_1707 dk_X10_editorOf (by decide) hl.1 rfl (Nat.le_of_ble_eq_true rfl) dL_law_1535 hc) hS (fun H locs hV hS => ?_)
  refine lv_istore (lv' := [(7, .int q2.1), (6, .int q1.1), (0, .ref b), (1, .ref (b0 + 0)), (2, .ref (b0 + 208)), (3, .ref (b0 + 216)), (4, .ref (b0 + 217)), (5, .int x5)]) hx hb dL_law_1538 hl (by decide) rfl (fun ls hl => ?_)
  refine lv_aload_n hx hb dL_law_1540 rfl (lv_at hl 4 rfl) ?_
  obtain ⟨q3, e3, hr⟩ := ob hr
  refine cal_i (run_V (As := []) (rest := []) C hV hS (c_X10_thrown l G b0 q2.2 q3 e3) (rcv hK hV (kd_lt z_208 (by decide)) (cel_20 z_208) rfl) q_1470 q_1471 q_1472 q_151 q_1473 dk_X10_thrown (by decide) hl.1 rfl (Nat.le_of_ble_eq_true rfl) dL_law_1541 hc) hS (fun H locs hV hS => ?_)
  refine lv_iload hx hb dL_law_1544 (lv_at hl 1 rfl) ?_
  refine lv_icmp_eq (tgt := 1551) hx hb dL_law_1546 (by decide) (fun b_4 => ?_) (fun b_4 => ?_)
  · have hr := it b_4 hr
    refine lv_iload hx hb dL_law_1551 (lv_at hl 1 rfl) ?_
    refine lv_if_ne (tgt := 1568) hx hb dL_law_1553 (by decide) (fun b_5 => ?_) (fun b_5 => ?_)
    · have hr := ie b_5 hr
      refine lv_goto (tgt := 2366) hx hb dL_law_1568 (by decide) ?_
      obtain rfl := Option.some.inj hr
      exact kk _ _ ls hV hS (lv_sub hl [2, 3, 4, 5, 6, 7] rfl)
    · have hr := it b_5 hr
      refine lv_aload_n hx hb dL_law_1556 rfl (lv_at hl 5 rfl) ?_
      refine lv_iconst (v := 0) hx hb dL_law_1557 (by decide) ?_
      refine a_28 C hV dL_law_1558 ?_
      refine lv_iload hx hb dL_law_1559 (lv_at hl 0 rfl) ?_
      refine lv_i2l (v := (q2.1).toInt64) hx hb dL_law_1561 rfl ?_
      refine r_lcmp (x := q2.2 216 0) (y := q2.1) hx hb dL_law_1562 ?_
      refine lv_if_eq (tgt := 1568) hx hb dL_law_1563 (by decide) (fun b_6 => ?_) (fun b_6 => ?_)
      · have hr := it b_6 hr
        refine lv_goto (tgt := 2366) hx hb dL_law_1568 (by decide) ?_
        obtain rfl := Option.some.inj hr
        exact kk _ _ ls hV hS (lv_sub hl [2, 3, 4, 5, 6, 7] rfl)
      · have hr := ie b_6 hr
        cases hr
  · have hr := ie b_4 hr
    cases hr
set_option maxHeartbeats 4000000 in
set_option maxRecDepth 100000 in
theorem kc_20 (hfl : l.stackTraces = false) (C : Cx p l s m args meth c G b0 R_own cL_law 9 ret0) (hX : va_X b L xs s s.heap) (hbl : b < s.heap.size) (hbA : ¬ Ab b0 b) (hc : kc + 1 ≤ room_1.cells ∧ ks + 6 ≤ room_1.slots) (hV : Hd G b0 V H) (hS : va_S (Ab b0) s.heap H locs) (hl : lv_has ls 9 [(0, .ref b), (1, .ref (b0 + 0)), (2, .ref (b0 + 208)), (3, .ref (b0 + 216)), (4, .ref (b0 + 217)), (5, .int x5)]) {y1 : Int32} (h1 : Sc xs L (x5 + 1) y1) {V1 : St} (hr : k_20 V y1 = some V1)
    (kk : ∀ (H1 : Heap) (locs1 : List Loc) (ls : Array Slot), Hd G b0 V1 H1 → va_S (Ab b0) s.heap H1 locs1 → lv_has ls 9 [(0, .ref b), (1, .ref (b0 + 0)), (2, .ref (b0 + 208)), (3, .ref (b0 + 216)), (4, .ref (b0 + 217)), (5, .int x5)] → W p l e room_1 s m args below meth c H1 locs1 (kc + 1) (ks + 6) Q (F0 m 2366 ls [])) : W p l e room_1 s m args below meth c H locs kc ks Q (F0 m 1571 ls []) := by
  obtain ⟨hx, hb, hrt, hml, hown, hts, hlocks, hK, hSv⟩ := id C
  unfold k_20 at hr
  refine lv_aload_n hx hb dL_law_1571 rfl (lv_at hl 1 rfl) ?_
  refine lv_aload_n hx hb dL_law_1572 rfl (lv_at hl 0 rfl) ?_
  refine lv_iload hx hb dL_law_1573 (lv_at hl 5 rfl) ?_
  refine lv_iconst (v := 1) hx hb dL_law_1575 (by decide) ?_
  refine lv_iadd hx hb dL_law_1576 ?_
  refine r_sld hx hb hX hbl hbA hS h1 dL_law_1577 ?_
  refine lv_i2c (v := i2c y1) hx hb dL_law_1578 rfl ?_
  refine lv_aload_n hx hb dL_law_1579 rfl (lv_at hl 3 rfl) ?_
  obtain ⟨q1, e1, hr⟩ := ob hr
  refine cal_h (run_H (As := [.ref (b0 + 0), .int (i2c y1), .ref (b0 + 216)]) (rest := []) C hV hS (c_L_feed l hfl G b0 V (i2c y1) q1 e1) q_1067 q_1068 q_140 q_1069 dk_L_feed (by decide) hl.1 rfl (Nat.le_of_ble_eq_true rfl) dL_law_1580 hc) hS (fun H locs hV hS => ?_)
  refine lv_istore (lv' := [(6, .int q1.1), (0, .ref b), (1, .ref (b0 + 0)), (2, .ref (b0 + 208)), (3, .ref (b0 + 216)), (4, .ref (b0 + 217)), (5, .int x5)]) hx hb dL_law_1583 hl (by decide) rfl (fun ls hl => ?_)
  refine lv_aload_n hx hb dL_law_1585 rfl (lv_at hl 3 rfl) ?_
  refine lv_aload_n hx hb dL_law_1586 rfl (lv_at hl 1 rfl) ?_
  refine lv_iload hx hb dL_law_1587 (lv_at hl 6 rfl) ?_
  refine lv_iconst (v := 1) hx hb dL_law_1589 (by decide) ?_
  refine lv_iadd hx hb dL_law_1590 ?_
  refine r_sld hx hb hX hbl hbA hS h1 dL_law_1591 ?_
  refine lv_i2c (v := i2c y1) hx hb dL_law_1592 rfl ?_
  obtain ⟨q2, e2, hr⟩ := ob hr
  refine cal_i (run_V (As := [.int (i2c y1)]) (rest := []) C hV hS (c_X10_feed l G b0 q1.2 (i2c y1) q2 e2) (rcv hK hV (kd_lt z_208 (by decide)) (cel_20 z_208) rfl) q_1708 q_1709 q_1710 q_151 q_1711 dk_X10_feed (by decide) hl.1 rfl (Nat.le_of_ble_eq_true rfl) dL_law_1593 hc) hS (fun H locs hV hS => ?_)
  refine lv_istore (lv' := [(7, .int q2.1), (6, .int q1.1), (0, .ref b), (1, .ref (b0 + 0)), (2, .ref (b0 + 208)), (3, .ref (b0 + 216)), (4, .ref (b0 + 217)), (5, .int x5)]) hx hb dL_law_1596 hl (by decide) rfl (fun ls hl => ?_)
  refine lv_aload_n hx hb dL_law_1598 rfl (lv_at hl 4 rfl) ?_
  obtain ⟨q3, e3, hr⟩ := ob hr
  refine cal_i (run_V (As := []) (rest := []) C hV hS (c_X10_thrown l G b0 q2.2 q3 e3) (rcv hK hV (kd_lt z_208 (by decide)) (cel_20 z_208) rfl) q_1470 q_1471 q_1472 q_151 q_1473 dk_X10_thrown (by decide) hl.1 rfl (Nat.le_of_ble_eq_true rfl) dL_law_1599 hc) hS (fun H locs hV hS => ?_)
  refine lv_iload hx hb dL_law_1602 (lv_at hl 1 rfl) ?_
  refine lv_icmp_eq (tgt := 1609) hx hb dL_law_1604 (by decide) (fun b_4 => ?_) (fun b_4 => ?_)
  · have hr := it b_4 hr
    refine lv_iload hx hb dL_law_1609 (lv_at hl 1 rfl) ?_
    refine lv_if_ne (tgt := 1626) hx hb dL_law_1611 (by decide) (fun b_5 => ?_) (fun b_5 => ?_)
    · have hr := ie b_5 hr
      refine lv_goto (tgt := 2366) hx hb dL_law_1626 (by decide) ?_
      obtain rfl := Option.some.inj hr
      exact kk _ _ ls hV hS (lv_sub hl [2, 3, 4, 5, 6, 7] rfl)
    · have hr := it b_5 hr
      refine lv_aload_n hx hb dL_law_1614 rfl (lv_at hl 5 rfl) ?_
      refine lv_iconst (v := 0) hx hb dL_law_1615 (by decide) ?_
      refine a_28 C hV dL_law_1616 ?_
      refine lv_iload hx hb dL_law_1617 (lv_at hl 0 rfl) ?_
      refine lv_i2l (v := (q2.1).toInt64) hx hb dL_law_1619 rfl ?_
      refine r_lcmp (x := q2.2 216 0) (y := q2.1) hx hb dL_law_1620 ?_
      refine lv_if_eq (tgt := 1626) hx hb dL_law_1621 (by decide) (fun b_6 => ?_) (fun b_6 => ?_)
      · have hr := it b_6 hr
        refine lv_goto (tgt := 2366) hx hb dL_law_1626 (by decide) ?_
        obtain rfl := Option.some.inj hr
        exact kk _ _ ls hV hS (lv_sub hl [2, 3, 4, 5, 6, 7] rfl)
      · have hr := ie b_6 hr
        cases hr
  · have hr := ie b_4 hr
    cases hr
set_option maxHeartbeats 4000000 in
set_option maxRecDepth 100000 in
theorem kc_21 (hfl : l.stackTraces = false) (C : Cx p l s m args meth c G b0 R_own cL_law 9 ret0) (hX : va_X b L xs s s.heap) (hbl : b < s.heap.size) (hbA : ¬ Ab b0 b) (hc : kc + 1 ≤ room_1.cells ∧ ks + 6 ≤ room_1.slots) (hV : Hd G b0 V H) (hS : va_S (Ab b0) s.heap H locs) (hl : lv_has ls 9 [(0, .ref b), (1, .ref (b0 + 0)), (2, .ref (b0 + 208)), (3, .ref (b0 + 216)), (4, .ref (b0 + 217)), (5, .int x5)]) {V1 : St} (hr : k_21 V = some V1)
    (kk : ∀ (H1 : Heap) (locs1 : List Loc) (ls : Array Slot), Hd G b0 V1 H1 → va_S (Ab b0) s.heap H1 locs1 → lv_has ls 9 [(0, .ref b), (1, .ref (b0 + 0)), (2, .ref (b0 + 208)), (3, .ref (b0 + 216)), (4, .ref (b0 + 217)), (5, .int x5)] → W p l e room_1 s m args below meth c H1 locs1 (kc + 1) (ks + 6) Q (F0 m 2366 ls [])) : W p l e room_1 s m args below meth c H locs kc ks Q (F0 m 1629 ls []) := by
  obtain ⟨hx, hb, hrt, hml, hown, hts, hlocks, hK, hSv⟩ := id C
  unfold k_21 at hr
  refine lv_aload_n hx hb dL_law_1629 rfl (lv_at hl 1 rfl) ?_
  refine lv_aload_n hx hb dL_law_1630 rfl (lv_at hl 3 rfl) ?_
  obtain ⟨q1, e1, hr⟩ := ob hr
  refine cal_h (run_H (As := [.ref (b0 + 0), .ref (b0 + 216)]) (rest := []) C hV hS (c_L_run l hfl G b0 V q1 e1) q_1099 q_1100 q_140 q_1101 dk_L_run (by decide) hl.1 rfl (Nat.le_of_ble_eq_true rfl) dL_law_1631 hc) hS (fun H locs hV hS => ?_)
  refine lv_istore (lv' := [(6, .int q1.1), (0, .ref b), (1, .ref (b0 + 0)), (2, .ref (b0 + 208)), (3, .ref (b0 + 216)), (4, .ref (b0 + 217)), (5, .int x5)]) hx hb dL_law_1634 hl (by decide) rfl (fun ls hl => ?_)
  refine lv_aload_n hx hb dL_law_1636 rfl (lv_at hl 3 rfl) ?_
  obtain ⟨q2, e2, hr⟩ := ob hr
  refine cal_i (run_V (As := []) (rest := []) C hV hS (c_X10_run l G b0 q1.2 q2 e2) (rcv hK hV (kd_lt z_208 (by decide)) (cel_20 z_208) rfl) q_1712 q_1713 q_1714 q_151 q_1715 dk_X10_run (by decide) hl.1 rfl (Nat.le_of_ble_eq_true rfl) dL_law_1637 hc) hS (fun H locs hV hS => ?_)
  refine lv_istore (lv' := [(7, .int q2.1), (6, .int q1.1), (0, .ref b), (1, .ref (b0 + 0)), (2, .ref (b0 + 208)), (3, .ref (b0 + 216)), (4, .ref (b0 + 217)), (5, .int x5)]) hx hb dL_law_1640 hl (by decide) rfl (fun ls hl => ?_)
  refine lv_aload_n hx hb dL_law_1642 rfl (lv_at hl 4 rfl) ?_
  obtain ⟨q3, e3, hr⟩ := ob hr
  refine cal_i (run_V (As := []) (rest := []) C hV hS (c_X10_thrown l G b0 q2.2 q3 e3) (rcv hK hV (kd_lt z_208 (by decide)) (cel_20 z_208) rfl) q_1470 q_1471 q_1472 q_151 q_1473 dk_X10_thrown (by decide) hl.1 rfl (Nat.le_of_ble_eq_true rfl) dL_law_1643 hc) hS (fun H locs hV hS => ?_)
  refine lv_iload hx hb dL_law_1646 (lv_at hl 1 rfl) ?_
  refine lv_icmp_eq (tgt := 1653) hx hb dL_law_1648 (by decide) (fun b_4 => ?_) (fun b_4 => ?_)
  · have hr := it b_4 hr
    refine lv_iload hx hb dL_law_1653 (lv_at hl 1 rfl) ?_
    refine lv_if_ne (tgt := 1670) hx hb dL_law_1655 (by decide) (fun b_5 => ?_) (fun b_5 => ?_)
    · have hr := ie b_5 hr
      refine lv_goto (tgt := 2366) hx hb dL_law_1670 (by decide) ?_
      obtain rfl := Option.some.inj hr
      exact kk _ _ ls hV hS (lv_sub hl [2, 3, 4, 5, 6, 7] rfl)
    · have hr := it b_5 hr
      refine lv_aload_n hx hb dL_law_1658 rfl (lv_at hl 5 rfl) ?_
      refine lv_iconst (v := 0) hx hb dL_law_1659 (by decide) ?_
      refine a_28 C hV dL_law_1660 ?_
      refine lv_iload hx hb dL_law_1661 (lv_at hl 0 rfl) ?_
      refine lv_i2l (v := (q2.1).toInt64) hx hb dL_law_1663 rfl ?_
      refine r_lcmp (x := q2.2 216 0) (y := q2.1) hx hb dL_law_1664 ?_
      refine lv_if_eq (tgt := 1670) hx hb dL_law_1665 (by decide) (fun b_6 => ?_) (fun b_6 => ?_)
      · have hr := it b_6 hr
        refine lv_goto (tgt := 2366) hx hb dL_law_1670 (by decide) ?_
        obtain rfl := Option.some.inj hr
        exact kk _ _ ls hV hS (lv_sub hl [2, 3, 4, 5, 6, 7] rfl)
      · have hr := ie b_6 hr
        cases hr
  · have hr := ie b_4 hr
    cases hr
set_option maxHeartbeats 4000000 in
set_option maxRecDepth 100000 in
theorem kc_22 (hfl : l.stackTraces = false) (C : Cx p l s m args meth c G b0 R_own cL_law 9 ret0) (hX : va_X b L xs s s.heap) (hbl : b < s.heap.size) (hbA : ¬ Ab b0 b) (hc : kc + 1 ≤ room_1.cells ∧ ks + 6 ≤ room_1.slots) (hV : Hd G b0 V H) (hS : va_S (Ab b0) s.heap H locs) (hl : lv_has ls 9 [(0, .ref b), (1, .ref (b0 + 0)), (2, .ref (b0 + 208)), (3, .ref (b0 + 216)), (4, .ref (b0 + 217)), (5, .int x5)]) {V1 : St} (hr : k_22 V = some V1)
    (kk : ∀ (H1 : Heap) (locs1 : List Loc) (ls : Array Slot), Hd G b0 V1 H1 → va_S (Ab b0) s.heap H1 locs1 → lv_has ls 9 [(0, .ref b), (1, .ref (b0 + 0)), (2, .ref (b0 + 208)), (3, .ref (b0 + 216)), (4, .ref (b0 + 217)), (5, .int x5)] → W p l e room_1 s m args below meth c H1 locs1 (kc + 1) (ks + 6) Q (F0 m 2366 ls [])) : W p l e room_1 s m args below meth c H locs kc ks Q (F0 m 1673 ls []) := by
  obtain ⟨hx, hb, hrt, hml, hown, hts, hlocks, hK, hSv⟩ := id C
  unfold k_22 at hr
  refine lv_aload_n hx hb dL_law_1673 rfl (lv_at hl 1 rfl) ?_
  refine lv_aload_n hx hb dL_law_1674 rfl (lv_at hl 3 rfl) ?_
  obtain ⟨q1, e1, hr⟩ := ob hr
  refine cal_h (run_H (As := [.ref (b0 + 0), .ref (b0 + 216)]) (rest := []) C hV hS (c_L_faultPosition l hfl G b0 V q1 e1) q_1228 q_1229 q_140 q_1230 dk_L_faultPosition (by decide) hl.1 rfl (Nat.le_of_ble_eq_true rfl) dL_law_1675 hc) hS (fun H locs hV hS => ?_)
  refine lv_istore (lv' := [(6, .int q1.1), (0, .ref b), (1, .ref (b0 + 0)), (2, .ref (b0 + 208)), (3, .ref (b0 + 216)), (4, .ref (b0 + 217)), (5, .int x5)]) hx hb dL_law_1678 hl (by decide) rfl (fun ls hl => ?_)
  refine lv_aload_n hx hb dL_law_1680 rfl (lv_at hl 3 rfl) ?_
  obtain ⟨q2, e2, hr⟩ := ob hr
  refine cal_i (run_V (As := []) (rest := []) C hV hS (c_X10_faultPosition l G b0 q1.2 q2 e2) (rcv hK hV (kd_lt z_208 (by decide)) (cel_20 z_208) rfl) q_1762 q_1763 q_1764 q_151 q_1765 dk_X10_faultPosition (by decide) hl.1 rfl (Nat.le_of_ble_eq_true rfl) dL_law_1681 hc) hS (fun H locs hV hS => ?_)
  refine lv_istore (lv' := [(7, .int q2.1), (6, .int q1.1), (0, .ref b), (1, .ref (b0 + 0)), (2, .ref (b0 + 208)), (3, .ref (b0 + 216)), (4, .ref (b0 + 217)), (5, .int x5)]) hx hb dL_law_1684 hl (by decide) rfl (fun ls hl => ?_)
  refine lv_aload_n hx hb dL_law_1686 rfl (lv_at hl 4 rfl) ?_
  obtain ⟨q3, e3, hr⟩ := ob hr
  refine cal_i (run_V (As := []) (rest := []) C hV hS (c_X10_thrown l G b0 q2.2 q3 e3) (rcv hK hV (kd_lt z_208 (by decide)) (cel_20 z_208) rfl) q_1470 q_1471 q_1472 q_151 q_1473 dk_X10_thrown (by decide) hl.1 rfl (Nat.le_of_ble_eq_true rfl) dL_law_1687 hc) hS (fun H locs hV hS => ?_)
  refine lv_iload hx hb dL_law_1690 (lv_at hl 1 rfl) ?_
  refine lv_icmp_eq (tgt := 1697) hx hb dL_law_1692 (by decide) (fun b_4 => ?_) (fun b_4 => ?_)
  · have hr := it b_4 hr
    refine lv_iload hx hb dL_law_1697 (lv_at hl 1 rfl) ?_
    refine lv_if_ne (tgt := 1714) hx hb dL_law_1699 (by decide) (fun b_5 => ?_) (fun b_5 => ?_)
    · have hr := ie b_5 hr
      refine lv_goto (tgt := 2366) hx hb dL_law_1714 (by decide) ?_
      obtain rfl := Option.some.inj hr
      exact kk _ _ ls hV hS (lv_sub hl [2, 3, 4, 5, 6, 7] rfl)
    · have hr := it b_5 hr
      refine lv_aload_n hx hb dL_law_1702 rfl (lv_at hl 5 rfl) ?_
      refine lv_iconst (v := 0) hx hb dL_law_1703 (by decide) ?_
      refine a_28 C hV dL_law_1704 ?_
      refine lv_iload hx hb dL_law_1705 (lv_at hl 0 rfl) ?_
      refine lv_i2l (v := (q2.1).toInt64) hx hb dL_law_1707 rfl ?_
      refine r_lcmp (x := q2.2 216 0) (y := q2.1) hx hb dL_law_1708 ?_
      refine lv_if_eq (tgt := 1714) hx hb dL_law_1709 (by decide) (fun b_6 => ?_) (fun b_6 => ?_)
      · have hr := it b_6 hr
        refine lv_goto (tgt := 2366) hx hb dL_law_1714 (by decide) ?_
        obtain rfl := Option.some.inj hr
        exact kk _ _ ls hV hS (lv_sub hl [2, 3, 4, 5, 6, 7] rfl)
      · have hr := ie b_6 hr
        cases hr
  · have hr := ie b_4 hr
    cases hr
set_option maxHeartbeats 4000000 in
set_option maxRecDepth 100000 in
theorem kc_23 (hfl : l.stackTraces = false) (C : Cx p l s m args meth c G b0 R_own cL_law 9 ret0) (hX : va_X b L xs s s.heap) (hbl : b < s.heap.size) (hbA : ¬ Ab b0 b) (hc : kc + 1 ≤ room_1.cells ∧ ks + 6 ≤ room_1.slots) (hV : Hd G b0 V H) (hS : va_S (Ab b0) s.heap H locs) (hl : lv_has ls 9 [(0, .ref b), (1, .ref (b0 + 0)), (2, .ref (b0 + 208)), (3, .ref (b0 + 216)), (4, .ref (b0 + 217)), (5, .int x5)]) {y1 : Int32} (h1 : Sc xs L (x5 + 1) y1) {y2 : Int32} (h2 : Sc xs L (x5 + 2) y2) {V1 : St} (hr : k_23 V y1 y2 = some V1)
    (kk : ∀ (H1 : Heap) (locs1 : List Loc) (ls : Array Slot), Hd G b0 V1 H1 → va_S (Ab b0) s.heap H1 locs1 → lv_has ls 9 [(0, .ref b), (1, .ref (b0 + 0)), (2, .ref (b0 + 208)), (3, .ref (b0 + 216)), (4, .ref (b0 + 217)), (5, .int x5)] → W p l e room_1 s m args below meth c H1 locs1 (kc + 1) (ks + 6) Q (F0 m 2366 ls [])) : W p l e room_1 s m args below meth c H locs kc ks Q (F0 m 1717 ls []) := by
  obtain ⟨hx, hb, hrt, hml, hown, hts, hlocks, hK, hSv⟩ := id C
  unfold k_23 at hr
  refine lv_aload_n hx hb dL_law_1717 rfl (lv_at hl 1 rfl) ?_
  refine lv_aload_n hx hb dL_law_1718 rfl (lv_at hl 0 rfl) ?_
  refine lv_iload hx hb dL_law_1719 (lv_at hl 5 rfl) ?_
  refine lv_iconst (v := 1) hx hb dL_law_1721 (by decide) ?_
  refine lv_iadd hx hb dL_law_1722 ?_
  refine r_sld hx hb hX hbl hbA hS h1 dL_law_1723 ?_
  suffices hM : W p l e room_1 s m args below meth c H locs kc ks Q (F0 m 1732 ls [.int (bz y1), .ref (b0 + 0)]) from (by
      refine lv_if_eq (tgt := 1731) hx hb dL_law_1724 (by decide) (fun z => ?_) (fun z => ?_)
      · rw [show bz y1 = 0 from if_pos z] at hM
        refine lv_iconst (v := 0) hx hb dL_law_1731 (by decide) ?_
        exact hM
      · rw [show bz y1 = 1 from if_neg z] at hM
        refine lv_iconst (v := 1) hx hb dL_law_1727 (by decide) ?_
        refine lv_goto (tgt := 1732) hx hb dL_law_1728 (by decide) ?_
        exact hM)
  refine lv_aload_n hx hb dL_law_1732 rfl (lv_at hl 0 rfl) ?_
  refine lv_iload hx hb dL_law_1733 (lv_at hl 5 rfl) ?_
  refine lv_iconst (v := 2) hx hb dL_law_1735 (by decide) ?_
  refine lv_iadd hx hb dL_law_1736 ?_
  refine r_sld hx hb hX hbl hbA hS h2 dL_law_1737 ?_
  suffices hM : W p l e room_1 s m args below meth c H locs kc ks Q (F0 m 1746 ls [.int (bz y2), .int (bz y1), .ref (b0 + 0)]) from (by
      refine lv_if_eq (tgt := 1745) hx hb dL_law_1738 (by decide) (fun z => ?_) (fun z => ?_)
      · rw [show bz y2 = 0 from if_pos z] at hM
        refine lv_iconst (v := 0) hx hb dL_law_1745 (by decide) ?_
        exact hM
      · rw [show bz y2 = 1 from if_neg z] at hM
        refine lv_iconst (v := 1) hx hb dL_law_1741 (by decide) ?_
        refine lv_goto (tgt := 1746) hx hb dL_law_1742 (by decide) ?_
        exact hM)
  refine lv_aload_n hx hb dL_law_1746 rfl (lv_at hl 3 rfl) ?_
  obtain ⟨q1, e1, hr⟩ := ob hr
  refine cal_h (run_H (As := [.ref (b0 + 0), .int (bz y1), .int (bz y2), .ref (b0 + 216)]) (rest := []) C hV hS (c_L_reason l hfl G b0 V (bz y1) (bz y2) q1 e1) q_1236 q_1237 q_140 q_1238 dk_L_reason (by decide) hl.1 rfl (Nat.le_of_ble_eq_true rfl) dL_law_1747 hc) hS (fun H locs hV hS => ?_)
  refine lv_istore (lv' := [(6, .int q1.1), (0, .ref b), (1, .ref (b0 + 0)), (2, .ref (b0 + 208)), (3, .ref (b0 + 216)), (4, .ref (b0 + 217)), (5, .int x5)]) hx hb dL_law_1750 hl (by decide) rfl (fun ls hl => ?_)
  refine lv_aload_n hx hb dL_law_1752 rfl (lv_at hl 3 rfl) ?_
  refine lv_aload_n hx hb dL_law_1753 rfl (lv_at hl 1 rfl) ?_
  refine lv_iload hx hb dL_law_1754 (lv_at hl 6 rfl) ?_
  refine lv_iconst (v := 1) hx hb dL_law_1756 (by decide) ?_
  refine lv_iadd hx hb dL_law_1757 ?_
  refine r_sld hx hb hX hbl hbA hS h1 dL_law_1758 ?_
  suffices hM : W p l e room_1 s m args below meth c H locs (kc + 1) (ks + 6) Q (F0 m 1767 ls [.int (bz y1), .ref (b0 + 208)]) from (by
      refine lv_if_eq (tgt := 1766) hx hb dL_law_1759 (by decide) (fun z => ?_) (fun z => ?_)
      · rw [show bz y1 = 0 from if_pos z] at hM
        refine lv_iconst (v := 0) hx hb dL_law_1766 (by decide) ?_
        exact hM
      · rw [show bz y1 = 1 from if_neg z] at hM
        refine lv_iconst (v := 1) hx hb dL_law_1762 (by decide) ?_
        refine lv_goto (tgt := 1767) hx hb dL_law_1763 (by decide) ?_
        exact hM)
  refine lv_aload_n hx hb dL_law_1767 rfl (lv_at hl 1 rfl) ?_
  refine lv_iload hx hb dL_law_1768 (lv_at hl 6 rfl) ?_
  refine lv_iconst (v := 2) hx hb dL_law_1770 (by decide) ?_
  refine lv_iadd hx hb dL_law_1771 ?_
  refine r_sld hx hb hX hbl hbA hS h2 dL_law_1772 ?_
  suffices hM : W p l e room_1 s m args below meth c H locs (kc + 1) (ks + 6) Q (F0 m 1781 ls [.int (bz y2), .int (bz y1), .ref (b0 + 208)]) from (by
      refine lv_if_eq (tgt := 1780) hx hb dL_law_1773 (by decide) (fun z => ?_) (fun z => ?_)
      · rw [show bz y2 = 0 from if_pos z] at hM
        refine lv_iconst (v := 0) hx hb dL_law_1780 (by decide) ?_
        exact hM
      · rw [show bz y2 = 1 from if_neg z] at hM
        refine lv_iconst (v := 1) hx hb dL_law_1776 (by decide) ?_
        refine lv_goto (tgt := 1781) hx hb dL_law_1777 (by decide) ?_
        exact hM)
  obtain ⟨q2, e2, hr⟩ := ob hr
  refine cal_i (run_V (As := [.int (bz y1), .int (bz y2)]) (rest := []) C hV hS (c_X10_reason l G b0 q1.2 (bz y1) (bz y2) q2 e2) (rcv hK hV (kd_lt z_208 (by decide)) (cel_20 z_208) rfl) q_1766 q_1767 q_1768 q_151 q_1769 dk_X10_reason (by decide) hl.1 rfl (Nat.le_of_ble_eq_true rfl) dL_law_1781 hc) hS (fun H locs hV hS => ?_)
  refine lv_istore (lv' := [(7, .int q2.1), (6, .int q1.1), (0, .ref b), (1, .ref (b0 + 0)), (2, .ref (b0 + 208)), (3, .ref (b0 + 216)), (4, .ref (b0 + 217)), (5, .int x5)]) hx hb dL_law_1784 hl (by decide) rfl (fun ls hl => ?_)
  refine lv_aload_n hx hb dL_law_1786 rfl (lv_at hl 4 rfl) ?_
  obtain ⟨q3, e3, hr⟩ := ob hr
  refine cal_i (run_V (As := []) (rest := []) C hV hS (c_X10_thrown l G b0 q2.2 q3 e3) (rcv hK hV (kd_lt z_208 (by decide)) (cel_20 z_208) rfl) q_1470 q_1471 q_1472 q_151 q_1473 dk_X10_thrown (by decide) hl.1 rfl (Nat.le_of_ble_eq_true rfl) dL_law_1787 hc) hS (fun H locs hV hS => ?_)
  refine lv_iload hx hb dL_law_1790 (lv_at hl 1 rfl) ?_
  refine lv_icmp_eq (tgt := 1797) hx hb dL_law_1792 (by decide) (fun b_4 => ?_) (fun b_4 => ?_)
  · have hr := it b_4 hr
    refine lv_iload hx hb dL_law_1797 (lv_at hl 1 rfl) ?_
    refine lv_if_ne (tgt := 1814) hx hb dL_law_1799 (by decide) (fun b_5 => ?_) (fun b_5 => ?_)
    · have hr := ie b_5 hr
      refine lv_goto (tgt := 2366) hx hb dL_law_1814 (by decide) ?_
      obtain rfl := Option.some.inj hr
      exact kk _ _ ls hV hS (lv_sub hl [2, 3, 4, 5, 6, 7] rfl)
    · have hr := it b_5 hr
      refine lv_aload_n hx hb dL_law_1802 rfl (lv_at hl 5 rfl) ?_
      refine lv_iconst (v := 0) hx hb dL_law_1803 (by decide) ?_
      refine a_28 C hV dL_law_1804 ?_
      refine lv_iload hx hb dL_law_1805 (lv_at hl 0 rfl) ?_
      refine lv_i2l (v := (q2.1).toInt64) hx hb dL_law_1807 rfl ?_
      refine r_lcmp (x := q2.2 216 0) (y := q2.1) hx hb dL_law_1808 ?_
      refine lv_if_eq (tgt := 1814) hx hb dL_law_1809 (by decide) (fun b_6 => ?_) (fun b_6 => ?_)
      · have hr := it b_6 hr
        refine lv_goto (tgt := 2366) hx hb dL_law_1814 (by decide) ?_
        obtain rfl := Option.some.inj hr
        exact kk _ _ ls hV hS (lv_sub hl [2, 3, 4, 5, 6, 7] rfl)
      · have hr := ie b_6 hr
        cases hr
  · have hr := ie b_4 hr
    cases hr
set_option maxHeartbeats 4000000 in
set_option maxRecDepth 100000 in
theorem kc_24 (hfl : l.stackTraces = false) (C : Cx p l s m args meth c G b0 R_own cL_law 9 ret0) (hX : va_X b L xs s s.heap) (hbl : b < s.heap.size) (hbA : ¬ Ab b0 b) (hc : kc + 1 ≤ room_1.cells ∧ ks + 6 ≤ room_1.slots) (hV : Hd G b0 V H) (hS : va_S (Ab b0) s.heap H locs) (hl : lv_has ls 9 [(0, .ref b), (1, .ref (b0 + 0)), (2, .ref (b0 + 208)), (3, .ref (b0 + 216)), (4, .ref (b0 + 217)), (5, .int x5)]) {y1 : Int32} (h1 : Sc xs L (x5 + 1) y1) {y2 : Int32} (h2 : Sc xs L (x5 + 2) y2) {V1 : St} (hr : k_24 V y1 y2 = some V1)
    (kk : ∀ (H1 : Heap) (locs1 : List Loc) (ls : Array Slot), Hd G b0 V1 H1 → va_S (Ab b0) s.heap H1 locs1 → lv_has ls 9 [(0, .ref b), (1, .ref (b0 + 0)), (2, .ref (b0 + 208)), (3, .ref (b0 + 216)), (4, .ref (b0 + 217)), (5, .int x5)] → W p l e room_1 s m args below meth c H1 locs1 (kc + 1) (ks + 6) Q (F0 m 2366 ls [])) : W p l e room_1 s m args below meth c H locs kc ks Q (F0 m 1817 ls []) := by
  obtain ⟨hx, hb, hrt, hml, hown, hts, hlocks, hK, hSv⟩ := id C
  unfold k_24 at hr
  refine lv_aload_n hx hb dL_law_1817 rfl (lv_at hl 1 rfl) ?_
  refine lv_aload_n hx hb dL_law_1818 rfl (lv_at hl 0 rfl) ?_
  refine lv_iload hx hb dL_law_1819 (lv_at hl 5 rfl) ?_
  refine lv_iconst (v := 1) hx hb dL_law_1821 (by decide) ?_
  refine lv_iadd hx hb dL_law_1822 ?_
  refine r_sld hx hb hX hbl hbA hS h1 dL_law_1823 ?_
  refine lv_aload_n hx hb dL_law_1824 rfl (lv_at hl 0 rfl) ?_
  refine lv_iload hx hb dL_law_1825 (lv_at hl 5 rfl) ?_
  refine lv_iconst (v := 2) hx hb dL_law_1827 (by decide) ?_
  refine lv_iadd hx hb dL_law_1828 ?_
  refine r_sld hx hb hX hbl hbA hS h2 dL_law_1829 ?_
  refine lv_aload_n hx hb dL_law_1830 rfl (lv_at hl 3 rfl) ?_
  obtain ⟨q1, e1, hr⟩ := ob hr
  refine cal_h (run_H (As := [.ref (b0 + 0), .int y1, .int y2, .ref (b0 + 216)]) (rest := []) C hV hS (c_L_line l hfl G b0 V y1 y2 q1 e1) q_1245 q_1246 q_140 q_1247 dk_L_line (by decide) hl.1 rfl (Nat.le_of_ble_eq_true rfl) dL_law_1831 hc) hS (fun H locs hV hS => ?_)
  refine lv_istore (lv' := [(6, .int q1.1), (0, .ref b), (1, .ref (b0 + 0)), (2, .ref (b0 + 208)), (3, .ref (b0 + 216)), (4, .ref (b0 + 217)), (5, .int x5)]) hx hb dL_law_1834 hl (by decide) rfl (fun ls hl => ?_)
  refine lv_aload_n hx hb dL_law_1836 rfl (lv_at hl 3 rfl) ?_
  refine lv_aload_n hx hb dL_law_1837 rfl (lv_at hl 1 rfl) ?_
  refine lv_iload hx hb dL_law_1838 (lv_at hl 6 rfl) ?_
  refine lv_iconst (v := 1) hx hb dL_law_1840 (by decide) ?_
  refine lv_iadd hx hb dL_law_1841 ?_
  refine r_sld hx hb hX hbl hbA hS h1 dL_law_1842 ?_
  refine lv_aload_n hx hb dL_law_1843 rfl (lv_at hl 1 rfl) ?_
  refine lv_iload hx hb dL_law_1844 (lv_at hl 6 rfl) ?_
  refine lv_iconst (v := 2) hx hb dL_law_1846 (by decide) ?_
  refine lv_iadd hx hb dL_law_1847 ?_
  refine r_sld hx hb hX hbl hbA hS h2 dL_law_1848 ?_
  obtain ⟨q2, e2, hr⟩ := ob hr
  refine cal_i (run_V (As := [.int y1, .int y2]) (rest := []) C hV hS (c_X10_line l G b0 q1.2 y1 y2 q2 e2) (rcv hK hV (kd_lt z_208 (by decide)) (cel_20 z_208) rfl) q_1770 q_1771 q_1772 q_151 q_1773 dk_X10_line (by decide) hl.1 rfl (Nat.le_of_ble_eq_true rfl) dL_law_1849 hc) hS (fun H locs hV hS => ?_)
  refine lv_istore (lv' := [(7, .int q2.1), (6, .int q1.1), (0, .ref b), (1, .ref (b0 + 0)), (2, .ref (b0 + 208)), (3, .ref (b0 + 216)), (4, .ref (b0 + 217)), (5, .int x5)]) hx hb dL_law_1852 hl (by decide) rfl (fun ls hl => ?_)
  refine lv_aload_n hx hb dL_law_1854 rfl (lv_at hl 4 rfl) ?_
  obtain ⟨q3, e3, hr⟩ := ob hr
  refine cal_i (run_V (As := []) (rest := []) C hV hS (c_X10_thrown l G b0 q2.2 q3 e3) (rcv hK hV (kd_lt z_208 (by decide)) (cel_20 z_208) rfl) q_1470 q_1471 q_1472 q_151 q_1473 dk_X10_thrown (by decide) hl.1 rfl (Nat.le_of_ble_eq_true rfl) dL_law_1855 hc) hS (fun H locs hV hS => ?_)
  refine lv_iload hx hb dL_law_1858 (lv_at hl 1 rfl) ?_
  refine lv_icmp_eq (tgt := 1865) hx hb dL_law_1860 (by decide) (fun b_4 => ?_) (fun b_4 => ?_)
  · have hr := it b_4 hr
    refine lv_iload hx hb dL_law_1865 (lv_at hl 1 rfl) ?_
    refine lv_if_ne (tgt := 1882) hx hb dL_law_1867 (by decide) (fun b_5 => ?_) (fun b_5 => ?_)
    · have hr := ie b_5 hr
      refine lv_goto (tgt := 2366) hx hb dL_law_1882 (by decide) ?_
      obtain rfl := Option.some.inj hr
      exact kk _ _ ls hV hS (lv_sub hl [2, 3, 4, 5, 6, 7] rfl)
    · have hr := it b_5 hr
      refine lv_aload_n hx hb dL_law_1870 rfl (lv_at hl 5 rfl) ?_
      refine lv_iconst (v := 0) hx hb dL_law_1871 (by decide) ?_
      refine a_28 C hV dL_law_1872 ?_
      refine lv_iload hx hb dL_law_1873 (lv_at hl 0 rfl) ?_
      refine lv_i2l (v := (q2.1).toInt64) hx hb dL_law_1875 rfl ?_
      refine r_lcmp (x := q2.2 216 0) (y := q2.1) hx hb dL_law_1876 ?_
      refine lv_if_eq (tgt := 1882) hx hb dL_law_1877 (by decide) (fun b_6 => ?_) (fun b_6 => ?_)
      · have hr := it b_6 hr
        refine lv_goto (tgt := 2366) hx hb dL_law_1882 (by decide) ?_
        obtain rfl := Option.some.inj hr
        exact kk _ _ ls hV hS (lv_sub hl [2, 3, 4, 5, 6, 7] rfl)
      · have hr := ie b_6 hr
        cases hr
  · have hr := ie b_4 hr
    cases hr
set_option maxHeartbeats 4000000 in
set_option maxRecDepth 100000 in
theorem kc_25 (hfl : l.stackTraces = false) (C : Cx p l s m args meth c G b0 R_own cL_law 9 ret0) (hX : va_X b L xs s s.heap) (hbl : b < s.heap.size) (hbA : ¬ Ab b0 b) (hc : kc + 1 ≤ room_1.cells ∧ ks + 6 ≤ room_1.slots) (hV : Hd G b0 V H) (hS : va_S (Ab b0) s.heap H locs) (hl : lv_has ls 9 [(0, .ref b), (1, .ref (b0 + 0)), (2, .ref (b0 + 208)), (3, .ref (b0 + 216)), (4, .ref (b0 + 217)), (5, .int x5)]) {y1 : Int32} (h1 : Sc xs L (x5 + 1) y1) {y2 : Int32} (h2 : Sc xs L (x5 + 2) y2) {V1 : St} (hr : k_25 V y1 y2 = some V1)
    (kk : ∀ (H1 : Heap) (locs1 : List Loc) (ls : Array Slot), Hd G b0 V1 H1 → va_S (Ab b0) s.heap H1 locs1 → lv_has ls 9 [(0, .ref b), (1, .ref (b0 + 0)), (2, .ref (b0 + 208)), (3, .ref (b0 + 216)), (4, .ref (b0 + 217)), (5, .int x5)] → W p l e room_1 s m args below meth c H1 locs1 (kc + 1) (ks + 6) Q (F0 m 2366 ls [])) : W p l e room_1 s m args below meth c H locs kc ks Q (F0 m 1885 ls []) := by
  obtain ⟨hx, hb, hrt, hml, hown, hts, hlocks, hK, hSv⟩ := id C
  unfold k_25 at hr
  refine lv_aload_n hx hb dL_law_1885 rfl (lv_at hl 1 rfl) ?_
  refine lv_aload_n hx hb dL_law_1886 rfl (lv_at hl 0 rfl) ?_
  refine lv_iload hx hb dL_law_1887 (lv_at hl 5 rfl) ?_
  refine lv_iconst (v := 1) hx hb dL_law_1889 (by decide) ?_
  refine lv_iadd hx hb dL_law_1890 ?_
  refine r_sld hx hb hX hbl hbA hS h1 dL_law_1891 ?_
  refine lv_aload_n hx hb dL_law_1892 rfl (lv_at hl 0 rfl) ?_
  refine lv_iload hx hb dL_law_1893 (lv_at hl 5 rfl) ?_
  refine lv_iconst (v := 2) hx hb dL_law_1895 (by decide) ?_
  refine lv_iadd hx hb dL_law_1896 ?_
  refine r_sld hx hb hX hbl hbA hS h2 dL_law_1897 ?_
  refine lv_aload_n hx hb dL_law_1898 rfl (lv_at hl 3 rfl) ?_
  obtain ⟨q1, e1, hr⟩ := ob hr
  refine cal_h (run_H (As := [.ref (b0 + 0), .int y1, .int y2, .ref (b0 + 216)]) (rest := []) C hV hS (c_L_chapterLine l hfl G b0 V y1 y2 q1 e1) q_1270 q_1271 q_140 q_1272 dk_L_chapterLine (by decide) hl.1 rfl (Nat.le_of_ble_eq_true rfl) dL_law_1899 hc) hS (fun H locs hV hS => ?_)
  refine lv_istore (lv' := [(6, .int q1.1), (0, .ref b), (1, .ref (b0 + 0)), (2, .ref (b0 + 208)), (3, .ref (b0 + 216)), (4, .ref (b0 + 217)), (5, .int x5)]) hx hb dL_law_1902 hl (by decide) rfl (fun ls hl => ?_)
  refine lv_aload_n hx hb dL_law_1904 rfl (lv_at hl 3 rfl) ?_
  refine lv_aload_n hx hb dL_law_1905 rfl (lv_at hl 1 rfl) ?_
  refine lv_iload hx hb dL_law_1906 (lv_at hl 6 rfl) ?_
  refine lv_iconst (v := 1) hx hb dL_law_1908 (by decide) ?_
  refine lv_iadd hx hb dL_law_1909 ?_
  refine r_sld hx hb hX hbl hbA hS h1 dL_law_1910 ?_
  refine lv_aload_n hx hb dL_law_1911 rfl (lv_at hl 1 rfl) ?_
  refine lv_iload hx hb dL_law_1912 (lv_at hl 6 rfl) ?_
  refine lv_iconst (v := 2) hx hb dL_law_1914 (by decide) ?_
  refine lv_iadd hx hb dL_law_1915 ?_
  refine r_sld hx hb hX hbl hbA hS h2 dL_law_1916 ?_
  obtain ⟨q2, e2, hr⟩ := ob hr
  refine cal_i (run_V (As := [.int y1, .int y2]) (rest := []) C hV hS (c_X10_chapterLine l G b0 q1.2 y1 y2 q2 e2) (rcv hK hV (kd_lt z_208 (by decide)) (cel_20 z_208) rfl) q_1781 q_1782 q_1783 q_151 q_1784 dk_X10_chapterLine (by decide) hl.1 rfl (Nat.le_of_ble_eq_true rfl) dL_law_1917 hc) hS (fun H locs hV hS => ?_)
  refine lv_istore (lv' := [(7, .int q2.1), (6, .int q1.1), (0, .ref b), (1, .ref (b0 + 0)), (2, .ref (b0 + 208)), (3, .ref (b0 + 216)), (4, .ref (b0 + 217)), (5, .int x5)]) hx hb dL_law_1920 hl (by decide) rfl (fun ls hl => ?_)
  refine lv_aload_n hx hb dL_law_1922 rfl (lv_at hl 4 rfl) ?_
  obtain ⟨q3, e3, hr⟩ := ob hr
  refine cal_i (run_V (As := []) (rest := []) C hV hS (c_X10_thrown l G b0 q2.2 q3 e3) (rcv hK hV (kd_lt z_208 (by decide)) (cel_20 z_208) rfl) q_1470 q_1471 q_1472 q_151 q_1473 dk_X10_thrown (by decide) hl.1 rfl (Nat.le_of_ble_eq_true rfl) dL_law_1923 hc) hS (fun H locs hV hS => ?_)
  refine lv_iload hx hb dL_law_1926 (lv_at hl 1 rfl) ?_
  refine lv_icmp_eq (tgt := 1933) hx hb dL_law_1928 (by decide) (fun b_4 => ?_) (fun b_4 => ?_)
  · have hr := it b_4 hr
    refine lv_iload hx hb dL_law_1933 (lv_at hl 1 rfl) ?_
    refine lv_if_ne (tgt := 1950) hx hb dL_law_1935 (by decide) (fun b_5 => ?_) (fun b_5 => ?_)
    · have hr := ie b_5 hr
      refine lv_goto (tgt := 2366) hx hb dL_law_1950 (by decide) ?_
      obtain rfl := Option.some.inj hr
      exact kk _ _ ls hV hS (lv_sub hl [2, 3, 4, 5, 6, 7] rfl)
    · have hr := it b_5 hr
      refine lv_aload_n hx hb dL_law_1938 rfl (lv_at hl 5 rfl) ?_
      refine lv_iconst (v := 0) hx hb dL_law_1939 (by decide) ?_
      refine a_28 C hV dL_law_1940 ?_
      refine lv_iload hx hb dL_law_1941 (lv_at hl 0 rfl) ?_
      refine lv_i2l (v := (q2.1).toInt64) hx hb dL_law_1943 rfl ?_
      refine r_lcmp (x := q2.2 216 0) (y := q2.1) hx hb dL_law_1944 ?_
      refine lv_if_eq (tgt := 1950) hx hb dL_law_1945 (by decide) (fun b_6 => ?_) (fun b_6 => ?_)
      · have hr := it b_6 hr
        refine lv_goto (tgt := 2366) hx hb dL_law_1950 (by decide) ?_
        obtain rfl := Option.some.inj hr
        exact kk _ _ ls hV hS (lv_sub hl [2, 3, 4, 5, 6, 7] rfl)
      · have hr := ie b_6 hr
        cases hr
  · have hr := ie b_4 hr
    cases hr
set_option maxHeartbeats 4000000 in
set_option maxRecDepth 100000 in
theorem kc_26 (hfl : l.stackTraces = false) (C : Cx p l s m args meth c G b0 R_own cL_law 9 ret0) (hX : va_X b L xs s s.heap) (hbl : b < s.heap.size) (hbA : ¬ Ab b0 b) (hc : kc + 1 ≤ room_1.cells ∧ ks + 6 ≤ room_1.slots) (hV : Hd G b0 V H) (hS : va_S (Ab b0) s.heap H locs) (hl : lv_has ls 9 [(0, .ref b), (1, .ref (b0 + 0)), (2, .ref (b0 + 208)), (3, .ref (b0 + 216)), (4, .ref (b0 + 217)), (5, .int x5)]) {y1 : Int32} (h1 : Sc xs L (x5 + 1) y1) {V1 : St} (hr : k_26 V y1 = some V1)
    (kk : ∀ (H1 : Heap) (locs1 : List Loc) (ls : Array Slot), Hd G b0 V1 H1 → va_S (Ab b0) s.heap H1 locs1 → lv_has ls 9 [(0, .ref b), (1, .ref (b0 + 0)), (2, .ref (b0 + 208)), (3, .ref (b0 + 216)), (4, .ref (b0 + 217)), (5, .int x5)] → W p l e room_1 s m args below meth c H1 locs1 (kc + 1) (ks + 6) Q (F0 m 2366 ls [])) : W p l e room_1 s m args below meth c H locs kc ks Q (F0 m 1953 ls []) := by
  obtain ⟨hx, hb, hrt, hml, hown, hts, hlocks, hK, hSv⟩ := id C
  unfold k_26 at hr
  refine lv_aload_n hx hb dL_law_1953 rfl (lv_at hl 1 rfl) ?_
  refine lv_aload_n hx hb dL_law_1954 rfl (lv_at hl 0 rfl) ?_
  refine lv_iload hx hb dL_law_1955 (lv_at hl 5 rfl) ?_
  refine lv_iconst (v := 1) hx hb dL_law_1957 (by decide) ?_
  refine lv_iadd hx hb dL_law_1958 ?_
  refine r_sld hx hb hX hbl hbA hS h1 dL_law_1959 ?_
  refine lv_aload_n hx hb dL_law_1960 rfl (lv_at hl 3 rfl) ?_
  obtain ⟨q1, e1, hr⟩ := ob hr
  refine cal_h (run_H (As := [.ref (b0 + 0), .int y1, .ref (b0 + 216)]) (rest := []) C hV hS (c_L_noteLine l hfl G b0 V y1 q1 e1) q_1284 q_1285 q_140 q_1286 dk_L_noteLine (by decide) hl.1 rfl (Nat.le_of_ble_eq_true rfl) dL_law_1961 hc) hS (fun H locs hV hS => ?_)
  refine lv_istore (lv' := [(6, .int q1.1), (0, .ref b), (1, .ref (b0 + 0)), (2, .ref (b0 + 208)), (3, .ref (b0 + 216)), (4, .ref (b0 + 217)), (5, .int x5)]) hx hb dL_law_1964 hl (by decide) rfl (fun ls hl => ?_)
  refine lv_aload_n hx hb dL_law_1966 rfl (lv_at hl 3 rfl) ?_
  refine lv_aload_n hx hb dL_law_1967 rfl (lv_at hl 1 rfl) ?_
  refine lv_iload hx hb dL_law_1968 (lv_at hl 6 rfl) ?_
  refine lv_iconst (v := 1) hx hb dL_law_1970 (by decide) ?_
  refine lv_iadd hx hb dL_law_1971 ?_
  refine r_sld hx hb hX hbl hbA hS h1 dL_law_1972 ?_
  obtain ⟨q2, e2, hr⟩ := ob hr
  refine cal_i (run_V (As := [.int y1]) (rest := []) C hV hS (c_X10_noteLine l G b0 q1.2 y1 q2 e2) (rcv hK hV (kd_lt z_208 (by decide)) (cel_20 z_208) rfl) q_1785 q_1786 q_1787 q_151 q_1788 dk_X10_noteLine (by decide) hl.1 rfl (Nat.le_of_ble_eq_true rfl) dL_law_1973 hc) hS (fun H locs hV hS => ?_)
  refine lv_istore (lv' := [(7, .int q2.1), (6, .int q1.1), (0, .ref b), (1, .ref (b0 + 0)), (2, .ref (b0 + 208)), (3, .ref (b0 + 216)), (4, .ref (b0 + 217)), (5, .int x5)]) hx hb dL_law_1976 hl (by decide) rfl (fun ls hl => ?_)
  refine lv_aload_n hx hb dL_law_1978 rfl (lv_at hl 4 rfl) ?_
  obtain ⟨q3, e3, hr⟩ := ob hr
  refine cal_i (run_V (As := []) (rest := []) C hV hS (c_X10_thrown l G b0 q2.2 q3 e3) (rcv hK hV (kd_lt z_208 (by decide)) (cel_20 z_208) rfl) q_1470 q_1471 q_1472 q_151 q_1473 dk_X10_thrown (by decide) hl.1 rfl (Nat.le_of_ble_eq_true rfl) dL_law_1979 hc) hS (fun H locs hV hS => ?_)
  refine lv_iload hx hb dL_law_1982 (lv_at hl 1 rfl) ?_
  refine lv_icmp_eq (tgt := 1989) hx hb dL_law_1984 (by decide) (fun b_4 => ?_) (fun b_4 => ?_)
  · have hr := it b_4 hr
    refine lv_iload hx hb dL_law_1989 (lv_at hl 1 rfl) ?_
    refine lv_if_ne (tgt := 2006) hx hb dL_law_1991 (by decide) (fun b_5 => ?_) (fun b_5 => ?_)
    · have hr := ie b_5 hr
      refine lv_goto (tgt := 2366) hx hb dL_law_2006 (by decide) ?_
      obtain rfl := Option.some.inj hr
      exact kk _ _ ls hV hS (lv_sub hl [2, 3, 4, 5, 6, 7] rfl)
    · have hr := it b_5 hr
      refine lv_aload_n hx hb dL_law_1994 rfl (lv_at hl 5 rfl) ?_
      refine lv_iconst (v := 0) hx hb dL_law_1995 (by decide) ?_
      refine a_28 C hV dL_law_1996 ?_
      refine lv_iload hx hb dL_law_1997 (lv_at hl 0 rfl) ?_
      refine lv_i2l (v := (q2.1).toInt64) hx hb dL_law_1999 rfl ?_
      refine r_lcmp (x := q2.2 216 0) (y := q2.1) hx hb dL_law_2000 ?_
      refine lv_if_eq (tgt := 2006) hx hb dL_law_2001 (by decide) (fun b_6 => ?_) (fun b_6 => ?_)
      · have hr := it b_6 hr
        refine lv_goto (tgt := 2366) hx hb dL_law_2006 (by decide) ?_
        obtain rfl := Option.some.inj hr
        exact kk _ _ ls hV hS (lv_sub hl [2, 3, 4, 5, 6, 7] rfl)
      · have hr := ie b_6 hr
        cases hr
  · have hr := ie b_4 hr
    cases hr
set_option maxHeartbeats 4000000 in
set_option maxRecDepth 100000 in
theorem kc_27 (hfl : l.stackTraces = false) (C : Cx p l s m args meth c G b0 R_own cL_law 9 ret0) (hX : va_X b L xs s s.heap) (hbl : b < s.heap.size) (hbA : ¬ Ab b0 b) (hc : kc + 1 ≤ room_1.cells ∧ ks + 6 ≤ room_1.slots) (hV : Hd G b0 V H) (hS : va_S (Ab b0) s.heap H locs) (hl : lv_has ls 9 [(0, .ref b), (1, .ref (b0 + 0)), (2, .ref (b0 + 208)), (3, .ref (b0 + 216)), (4, .ref (b0 + 217)), (5, .int x5)]) {y1 : Int32} (h1 : Sc xs L (x5 + 1) y1) {V1 : St} (hr : k_27 V y1 = some V1)
    (kk : ∀ (H1 : Heap) (locs1 : List Loc) (ls : Array Slot), Hd G b0 V1 H1 → va_S (Ab b0) s.heap H1 locs1 → lv_has ls 9 [(0, .ref b), (1, .ref (b0 + 0)), (2, .ref (b0 + 208)), (3, .ref (b0 + 216)), (4, .ref (b0 + 217)), (5, .int x5)] → W p l e room_1 s m args below meth c H1 locs1 (kc + 1) (ks + 6) Q (F0 m 2366 ls [])) : W p l e room_1 s m args below meth c H locs kc ks Q (F0 m 2009 ls []) := by
  obtain ⟨hx, hb, hrt, hml, hown, hts, hlocks, hK, hSv⟩ := id C
  unfold k_27 at hr
  refine lv_aload_n hx hb dL_law_2009 rfl (lv_at hl 1 rfl) ?_
  refine lv_aload_n hx hb dL_law_2010 rfl (lv_at hl 0 rfl) ?_
  refine lv_iload hx hb dL_law_2011 (lv_at hl 5 rfl) ?_
  refine lv_iconst (v := 1) hx hb dL_law_2013 (by decide) ?_
  refine lv_iadd hx hb dL_law_2014 ?_
  refine r_sld hx hb hX hbl hbA hS h1 dL_law_2015 ?_
  refine lv_aload_n hx hb dL_law_2016 rfl (lv_at hl 3 rfl) ?_
  obtain ⟨q1, e1, hr⟩ := ob hr
  refine cal_h (run_H (As := [.ref (b0 + 0), .int y1, .ref (b0 + 216)]) (rest := []) C hV hS (c_L_character l hfl G b0 V y1 q1 e1) q_1291 q_1292 q_140 q_1293 dk_L_character (by decide) hl.1 rfl (Nat.le_of_ble_eq_true rfl) dL_law_2017 hc) hS (fun H locs hV hS => ?_)
  refine lv_istore (lv' := [(6, .int q1.1), (0, .ref b), (1, .ref (b0 + 0)), (2, .ref (b0 + 208)), (3, .ref (b0 + 216)), (4, .ref (b0 + 217)), (5, .int x5)]) hx hb dL_law_2020 hl (by decide) rfl (fun ls hl => ?_)
  refine lv_aload_n hx hb dL_law_2022 rfl (lv_at hl 3 rfl) ?_
  refine lv_aload_n hx hb dL_law_2023 rfl (lv_at hl 1 rfl) ?_
  refine lv_iload hx hb dL_law_2024 (lv_at hl 6 rfl) ?_
  refine lv_iconst (v := 1) hx hb dL_law_2026 (by decide) ?_
  refine lv_iadd hx hb dL_law_2027 ?_
  refine r_sld hx hb hX hbl hbA hS h1 dL_law_2028 ?_
  obtain ⟨q2, e2, hr⟩ := ob hr
  refine cal_i (run_V (As := [.int y1]) (rest := []) C hV hS (c_X10_character l G b0 q1.2 y1 q2 e2) (rcv hK hV (kd_lt z_208 (by decide)) (cel_20 z_208) rfl) q_1789 q_1790 q_1791 q_151 q_1792 dk_X10_character (by decide) hl.1 rfl (Nat.le_of_ble_eq_true rfl) dL_law_2029 hc) hS (fun H locs hV hS => ?_)
  refine lv_istore (lv' := [(7, .int q2.1), (6, .int q1.1), (0, .ref b), (1, .ref (b0 + 0)), (2, .ref (b0 + 208)), (3, .ref (b0 + 216)), (4, .ref (b0 + 217)), (5, .int x5)]) hx hb dL_law_2032 hl (by decide) rfl (fun ls hl => ?_)
  refine lv_aload_n hx hb dL_law_2034 rfl (lv_at hl 4 rfl) ?_
  obtain ⟨q3, e3, hr⟩ := ob hr
  refine cal_i (run_V (As := []) (rest := []) C hV hS (c_X10_thrown l G b0 q2.2 q3 e3) (rcv hK hV (kd_lt z_208 (by decide)) (cel_20 z_208) rfl) q_1470 q_1471 q_1472 q_151 q_1473 dk_X10_thrown (by decide) hl.1 rfl (Nat.le_of_ble_eq_true rfl) dL_law_2035 hc) hS (fun H locs hV hS => ?_)
  refine lv_iload hx hb dL_law_2038 (lv_at hl 1 rfl) ?_
  refine lv_icmp_eq (tgt := 2045) hx hb dL_law_2040 (by decide) (fun b_4 => ?_) (fun b_4 => ?_)
  · have hr := it b_4 hr
    refine lv_iload hx hb dL_law_2045 (lv_at hl 1 rfl) ?_
    refine lv_if_ne (tgt := 2062) hx hb dL_law_2047 (by decide) (fun b_5 => ?_) (fun b_5 => ?_)
    · have hr := ie b_5 hr
      refine lv_goto (tgt := 2366) hx hb dL_law_2062 (by decide) ?_
      obtain rfl := Option.some.inj hr
      exact kk _ _ ls hV hS (lv_sub hl [2, 3, 4, 5, 6, 7] rfl)
    · have hr := it b_5 hr
      refine lv_aload_n hx hb dL_law_2050 rfl (lv_at hl 5 rfl) ?_
      refine lv_iconst (v := 0) hx hb dL_law_2051 (by decide) ?_
      refine a_28 C hV dL_law_2052 ?_
      refine lv_iload hx hb dL_law_2053 (lv_at hl 0 rfl) ?_
      refine lv_i2l (v := (q2.1).toInt64) hx hb dL_law_2055 rfl ?_
      refine r_lcmp (x := q2.2 216 0) (y := q2.1) hx hb dL_law_2056 ?_
      refine lv_if_eq (tgt := 2062) hx hb dL_law_2057 (by decide) (fun b_6 => ?_) (fun b_6 => ?_)
      · have hr := it b_6 hr
        refine lv_goto (tgt := 2366) hx hb dL_law_2062 (by decide) ?_
        obtain rfl := Option.some.inj hr
        exact kk _ _ ls hV hS (lv_sub hl [2, 3, 4, 5, 6, 7] rfl)
      · have hr := ie b_6 hr
        cases hr
  · have hr := ie b_4 hr
    cases hr
set_option maxHeartbeats 4000000 in
set_option maxRecDepth 100000 in
theorem kc_28 (hfl : l.stackTraces = false) (C : Cx p l s m args meth c G b0 R_own cL_law 9 ret0) (hX : va_X b L xs s s.heap) (hbl : b < s.heap.size) (hbA : ¬ Ab b0 b) (hc : kc + 1 ≤ room_1.cells ∧ ks + 6 ≤ room_1.slots) (hV : Hd G b0 V H) (hS : va_S (Ab b0) s.heap H locs) (hl : lv_has ls 9 [(0, .ref b), (1, .ref (b0 + 0)), (2, .ref (b0 + 208)), (3, .ref (b0 + 216)), (4, .ref (b0 + 217)), (5, .int x5)]) {V1 : St} (hr : k_28 V = some V1)
    (kk : ∀ (H1 : Heap) (locs1 : List Loc) (ls : Array Slot), Hd G b0 V1 H1 → va_S (Ab b0) s.heap H1 locs1 → lv_has ls 9 [(0, .ref b), (1, .ref (b0 + 0)), (2, .ref (b0 + 208)), (3, .ref (b0 + 216)), (4, .ref (b0 + 217)), (5, .int x5)] → W p l e room_1 s m args below meth c H1 locs1 (kc + 1) (ks + 6) Q (F0 m 2366 ls [])) : W p l e room_1 s m args below meth c H locs kc ks Q (F0 m 2065 ls []) := by
  obtain ⟨hx, hb, hrt, hml, hown, hts, hlocks, hK, hSv⟩ := id C
  unfold k_28 at hr
  refine lv_aload_n hx hb dL_law_2065 rfl (lv_at hl 1 rfl) ?_
  refine lv_aload hx hb dL_law_2066 (lv_at hl 4 rfl) ?_
  obtain ⟨q1, e1, hr⟩ := ob hr
  refine cal_h (run_H (As := [.ref (b0 + 0), .ref (b0 + 217)]) (rest := []) C hV hS (c_L_meanKnots l hfl G b0 V q1 e1) q_1308 q_1309 q_140 q_1310 dk_L_meanKnots (by decide) hl.1 rfl (Nat.le_of_ble_eq_true rfl) dL_law_2068 hc) hS (fun H locs hV hS => ?_)
  refine lv_istore (lv' := [(6, .int q1.1), (0, .ref b), (1, .ref (b0 + 0)), (2, .ref (b0 + 208)), (3, .ref (b0 + 216)), (4, .ref (b0 + 217)), (5, .int x5)]) hx hb dL_law_2071 hl (by decide) rfl (fun ls hl => ?_)
  refine lv_aload_n hx hb dL_law_2073 rfl (lv_at hl 3 rfl) ?_
  obtain ⟨q2, e2, hr⟩ := ob hr
  refine cal_d (run_V (As := []) (rest := []) C hV hS (c_X10_meanKnots l G b0 q1.2 q2 e2) (rcv hK hV (kd_lt z_208 (by decide)) (cel_20 z_208) rfl) q_1793 q_1794 q_1795 q_151 q_1796 dk_X10_meanKnots (by decide) hl.1 rfl (Nat.le_of_ble_eq_true rfl) dL_law_2074 hc) hS (fun H locs hV hS => ?_)
  refine lv_dstore (lv' := [(7, .double q2.1), (6, .int q1.1), (0, .ref b), (1, .ref (b0 + 0)), (2, .ref (b0 + 208)), (3, .ref (b0 + 216)), (4, .ref (b0 + 217)), (5, .int x5)]) hx hb dL_law_2077 hl (by decide) rfl (fun ls hl => ?_)
  refine lv_aload_n hx hb dL_law_2079 rfl (lv_at hl 4 rfl) ?_
  obtain ⟨q3, e3, hr⟩ := ob hr
  refine cal_i (run_V (As := []) (rest := []) C hV hS (c_X10_thrown l G b0 q2.2 q3 e3) (rcv hK hV (kd_lt z_208 (by decide)) (cel_20 z_208) rfl) q_1470 q_1471 q_1472 q_151 q_1473 dk_X10_thrown (by decide) hl.1 rfl (Nat.le_of_ble_eq_true rfl) dL_law_2080 hc) hS (fun H locs hV hS => ?_)
  refine lv_iload hx hb dL_law_2083 (lv_at hl 1 rfl) ?_
  refine lv_icmp_eq (tgt := 2090) hx hb dL_law_2085 (by decide) (fun b_4 => ?_) (fun b_4 => ?_)
  · have hr := it b_4 hr
    refine lv_iload hx hb dL_law_2090 (lv_at hl 1 rfl) ?_
    refine lv_if_ne (tgt := 2127) hx hb dL_law_2092 (by decide) (fun b_5 => ?_) (fun b_5 => ?_)
    · have hr := ie b_5 hr
      refine lv_goto (tgt := 2366) hx hb dL_law_2127 (by decide) ?_
      obtain rfl := Option.some.inj hr
      exact kk _ _ ls hV hS (lv_sub hl [2, 3, 4, 5, 6, 7] rfl)
    · have hr := it b_5 hr
      refine lv_aload hx hb dL_law_2095 (lv_at hl 6 rfl) ?_
      refine lv_iconst (v := 0) hx hb dL_law_2097 (by decide) ?_
      refine a_29 C hV dL_law_2098 ?_
      refine lv_dload hx hb dL_law_2099 (lv_at hl 0 rfl) ?_
      refine lv_dcmp hx hb dL_law_2101 ?_
      refine W.eq (g2 := F0 m 2102 ls [.int (dcm (dmk (q2.2 217 0) (q2.2 217 1)) q2.1)]) rfl ?_
      refine lv_if_eq (tgt := 2127) hx hb dL_law_2102 (by decide) (fun b_6 => ?_) (fun b_6 => ?_)
      · have hr := it b_6 hr
        refine lv_goto (tgt := 2366) hx hb dL_law_2127 (by decide) ?_
        obtain rfl := Option.some.inj hr
        exact kk _ _ ls hV hS (lv_sub hl [2, 3, 4, 5, 6, 7] rfl)
      · have hr := ie b_6 hr
        refine lv_aload hx hb dL_law_2105 (lv_at hl 6 rfl) ?_
        refine lv_iconst (v := 0) hx hb dL_law_2107 (by decide) ?_
        refine a_29 C hV dL_law_2108 ?_
        refine lv_aload hx hb dL_law_2109 (lv_at hl 6 rfl) ?_
        refine lv_iconst (v := 0) hx hb dL_law_2111 (by decide) ?_
        refine a_29 C hV dL_law_2112 ?_
        refine lv_dcmp hx hb dL_law_2113 ?_
        refine W.eq (g2 := F0 m 2114 ls [.int (dcm (dmk (q2.2 217 0) (q2.2 217 1)) (dmk (q2.2 217 0) (q2.2 217 1)))]) rfl ?_
        refine lv_if_eq (tgt := 2125) hx hb dL_law_2114 (by decide) (fun b_7 => ?_) (fun b_7 => ?_)
        · have hr := it b_7 hr
          cases hr
        · have hr := ie b_7 hr
          refine lv_dload hx hb dL_law_2117 (lv_at hl 0 rfl) ?_
          refine lv_dload hx hb dL_law_2119 (lv_at hl 0 rfl) ?_
          refine lv_dcmp hx hb dL_law_2121 ?_
          refine W.eq (g2 := F0 m 2122 ls [.int (dcm q2.1 q2.1)]) rfl ?_
          refine lv_if_ne (tgt := 2127) hx hb dL_law_2122 (by decide) (fun b_8 => ?_) (fun b_8 => ?_)
          · have hr := ie b_8 hr
            refine lv_goto (tgt := 2366) hx hb dL_law_2127 (by decide) ?_
            obtain rfl := Option.some.inj hr
            exact kk _ _ ls hV hS (lv_sub hl [2, 3, 4, 5, 6, 7] rfl)
          · have hr := it b_8 hr
            cases hr
  · have hr := ie b_4 hr
    cases hr
set_option maxHeartbeats 4000000 in
set_option maxRecDepth 100000 in
theorem kc_29 (hfl : l.stackTraces = false) (C : Cx p l s m args meth c G b0 R_own cL_law 9 ret0) (hX : va_X b L xs s s.heap) (hbl : b < s.heap.size) (hbA : ¬ Ab b0 b) (hc : kc + 1 ≤ room_1.cells ∧ ks + 6 ≤ room_1.slots) (hV : Hd G b0 V H) (hS : va_S (Ab b0) s.heap H locs) (hl : lv_has ls 9 [(0, .ref b), (1, .ref (b0 + 0)), (2, .ref (b0 + 208)), (3, .ref (b0 + 216)), (4, .ref (b0 + 217)), (5, .int x5)]) {V1 : St} (hr : k_29 V = some V1)
    (kk : ∀ (H1 : Heap) (locs1 : List Loc) (ls : Array Slot), Hd G b0 V1 H1 → va_S (Ab b0) s.heap H1 locs1 → lv_has ls 9 [(0, .ref b), (1, .ref (b0 + 0)), (2, .ref (b0 + 208)), (3, .ref (b0 + 216)), (4, .ref (b0 + 217)), (5, .int x5)] → W p l e room_1 s m args below meth c H1 locs1 (kc + 1) (ks + 6) Q (F0 m 2366 ls [])) : W p l e room_1 s m args below meth c H locs kc ks Q (F0 m 2130 ls []) := by
  obtain ⟨hx, hb, hrt, hml, hown, hts, hlocks, hK, hSv⟩ := id C
  unfold k_29 at hr
  refine lv_aload_n hx hb dL_law_2130 rfl (lv_at hl 1 rfl) ?_
  refine lv_aload hx hb dL_law_2131 (lv_at hl 4 rfl) ?_
  obtain ⟨q1, e1, hr⟩ := ob hr
  refine cal_h (run_H (As := [.ref (b0 + 0), .ref (b0 + 217)]) (rest := []) C hV hS (c_L_readShare l hfl G b0 V q1 e1) q_1337 q_1338 q_140 q_1339 dk_L_readShare (by decide) hl.1 rfl (Nat.le_of_ble_eq_true rfl) dL_law_2133 hc) hS (fun H locs hV hS => ?_)
  refine lv_istore (lv' := [(6, .int q1.1), (0, .ref b), (1, .ref (b0 + 0)), (2, .ref (b0 + 208)), (3, .ref (b0 + 216)), (4, .ref (b0 + 217)), (5, .int x5)]) hx hb dL_law_2136 hl (by decide) rfl (fun ls hl => ?_)
  refine lv_aload_n hx hb dL_law_2138 rfl (lv_at hl 3 rfl) ?_
  obtain ⟨q2, e2, hr⟩ := ob hr
  refine cal_f (run_V (As := []) (rest := []) C hV hS (c_X10_readShare l G b0 q1.2 q2 e2) (rcv hK hV (kd_lt z_208 (by decide)) (cel_20 z_208) rfl) q_1805 q_1806 q_1807 q_151 q_1808 dk_X10_readShare (by decide) hl.1 rfl (Nat.le_of_ble_eq_true rfl) dL_law_2139 hc) hS (fun H locs hV hS => ?_)
  refine lv_fstore (lv' := [(7, .float q2.1), (6, .int q1.1), (0, .ref b), (1, .ref (b0 + 0)), (2, .ref (b0 + 208)), (3, .ref (b0 + 216)), (4, .ref (b0 + 217)), (5, .int x5)]) hx hb dL_law_2142 hl (by decide) rfl (fun ls hl => ?_)
  refine lv_aload_n hx hb dL_law_2144 rfl (lv_at hl 4 rfl) ?_
  obtain ⟨q3, e3, hr⟩ := ob hr
  refine cal_i (run_V (As := []) (rest := []) C hV hS (c_X10_thrown l G b0 q2.2 q3 e3) (rcv hK hV (kd_lt z_208 (by decide)) (cel_20 z_208) rfl) q_1470 q_1471 q_1472 q_151 q_1473 dk_X10_thrown (by decide) hl.1 rfl (Nat.le_of_ble_eq_true rfl) dL_law_2145 hc) hS (fun H locs hV hS => ?_)
  refine lv_iload hx hb dL_law_2148 (lv_at hl 1 rfl) ?_
  refine lv_icmp_eq (tgt := 2155) hx hb dL_law_2150 (by decide) (fun b_4 => ?_) (fun b_4 => ?_)
  · have hr := it b_4 hr
    refine lv_iload hx hb dL_law_2155 (lv_at hl 1 rfl) ?_
    refine lv_if_ne (tgt := 2193) hx hb dL_law_2157 (by decide) (fun b_5 => ?_) (fun b_5 => ?_)
    · have hr := ie b_5 hr
      refine lv_goto (tgt := 2366) hx hb dL_law_2193 (by decide) ?_
      obtain rfl := Option.some.inj hr
      exact kk _ _ ls hV hS (lv_sub hl [2, 3, 4, 5, 6, 7] rfl)
    · have hr := it b_5 hr
      refine lv_aload hx hb dL_law_2160 (lv_at hl 6 rfl) ?_
      refine lv_iconst (v := 0) hx hb dL_law_2162 (by decide) ?_
      refine a_29 C hV dL_law_2163 ?_
      refine lv_fload hx hb dL_law_2164 (lv_at hl 0 rfl) ?_
      obtain ⟨q6, e6, hr⟩ := ob hr
      obtain ⟨e6, g6⟩ := fdv_in e6
      refine lv_f2d hx hb dL_law_2166 g6 ?_
      rw [← e6]
      refine lv_dcmp hx hb dL_law_2167 ?_
      refine W.eq (g2 := F0 m 2168 ls [.int (dcm (dmk (q2.2 217 0) (q2.2 217 1)) q6)]) rfl ?_
      refine lv_if_eq (tgt := 2193) hx hb dL_law_2168 (by decide) (fun b_7 => ?_) (fun b_7 => ?_)
      · have hr := it b_7 hr
        refine lv_goto (tgt := 2366) hx hb dL_law_2193 (by decide) ?_
        obtain rfl := Option.some.inj hr
        exact kk _ _ ls hV hS (lv_sub hl [2, 3, 4, 5, 6, 7] rfl)
      · have hr := ie b_7 hr
        refine lv_aload hx hb dL_law_2171 (lv_at hl 6 rfl) ?_
        refine lv_iconst (v := 0) hx hb dL_law_2173 (by decide) ?_
        refine a_29 C hV dL_law_2174 ?_
        refine lv_aload hx hb dL_law_2175 (lv_at hl 6 rfl) ?_
        refine lv_iconst (v := 0) hx hb dL_law_2177 (by decide) ?_
        refine a_29 C hV dL_law_2178 ?_
        refine lv_dcmp hx hb dL_law_2179 ?_
        refine W.eq (g2 := F0 m 2180 ls [.int (dcm (dmk (q2.2 217 0) (q2.2 217 1)) (dmk (q2.2 217 0) (q2.2 217 1)))]) rfl ?_
        refine lv_if_eq (tgt := 2191) hx hb dL_law_2180 (by decide) (fun b_8 => ?_) (fun b_8 => ?_)
        · have hr := it b_8 hr
          cases hr
        · have hr := ie b_8 hr
          refine lv_fload hx hb dL_law_2183 (lv_at hl 0 rfl) ?_
          refine lv_fload hx hb dL_law_2185 (lv_at hl 0 rfl) ?_
          refine lv_fcmp hx hb dL_law_2187 ?_
          refine W.eq (g2 := F0 m 2188 ls [.int (fcm q2.1 q2.1)]) rfl ?_
          refine lv_if_ne (tgt := 2193) hx hb dL_law_2188 (by decide) (fun b_9 => ?_) (fun b_9 => ?_)
          · have hr := ie b_9 hr
            refine lv_goto (tgt := 2366) hx hb dL_law_2193 (by decide) ?_
            obtain rfl := Option.some.inj hr
            exact kk _ _ ls hV hS (lv_sub hl [2, 3, 4, 5, 6, 7] rfl)
          · have hr := it b_9 hr
            cases hr
  · have hr := ie b_4 hr
    cases hr
set_option maxHeartbeats 4000000 in
set_option maxRecDepth 100000 in
theorem kc_30 (hfl : l.stackTraces = false) (C : Cx p l s m args meth c G b0 R_own cL_law 9 ret0) (hX : va_X b L xs s s.heap) (hbl : b < s.heap.size) (hbA : ¬ Ab b0 b) (hc : kc + 1 ≤ room_1.cells ∧ ks + 6 ≤ room_1.slots) (hV : Hd G b0 V H) (hS : va_S (Ab b0) s.heap H locs) (hl : lv_has ls 9 [(0, .ref b), (1, .ref (b0 + 0)), (2, .ref (b0 + 208)), (3, .ref (b0 + 216)), (4, .ref (b0 + 217)), (5, .int x5)]) {y1 : Int32} (h1 : Sc xs L (x5 + 1) y1) {V1 : St} (hr : k_30 V y1 = some V1)
    (kk : ∀ (H1 : Heap) (locs1 : List Loc) (ls : Array Slot), Hd G b0 V1 H1 → va_S (Ab b0) s.heap H1 locs1 → lv_has ls 9 [(0, .ref b), (1, .ref (b0 + 0)), (2, .ref (b0 + 208)), (3, .ref (b0 + 216)), (4, .ref (b0 + 217)), (5, .int x5)] → W p l e room_1 s m args below meth c H1 locs1 (kc + 1) (ks + 6) Q (F0 m 2366 ls [])) : W p l e room_1 s m args below meth c H locs kc ks Q (F0 m 2196 ls []) := by
  obtain ⟨hx, hb, hrt, hml, hown, hts, hlocks, hK, hSv⟩ := id C
  unfold k_30 at hr
  refine lv_aload_n hx hb dL_law_2196 rfl (lv_at hl 1 rfl) ?_
  refine lv_aload_n hx hb dL_law_2197 rfl (lv_at hl 0 rfl) ?_
  refine lv_iload hx hb dL_law_2198 (lv_at hl 5 rfl) ?_
  refine lv_iconst (v := 1) hx hb dL_law_2200 (by decide) ?_
  refine lv_iadd hx hb dL_law_2201 ?_
  refine r_sld hx hb hX hbl hbA hS h1 dL_law_2202 ?_
  refine lv_aload_n hx hb dL_law_2203 rfl (lv_at hl 3 rfl) ?_
  obtain ⟨q1, e1, hr⟩ := ob hr
  refine cal_h (run_H (As := [.ref (b0 + 0), .int y1, .ref (b0 + 216)]) (rest := []) C hV hS (c_L_account l hfl G b0 V y1 q1 e1) q_1345 q_1346 q_140 q_1347 dk_L_account (by decide) hl.1 rfl (Nat.le_of_ble_eq_true rfl) dL_law_2204 hc) hS (fun H locs hV hS => ?_)
  refine lv_istore (lv' := [(6, .int q1.1), (0, .ref b), (1, .ref (b0 + 0)), (2, .ref (b0 + 208)), (3, .ref (b0 + 216)), (4, .ref (b0 + 217)), (5, .int x5)]) hx hb dL_law_2207 hl (by decide) rfl (fun ls hl => ?_)
  refine lv_aload_n hx hb dL_law_2209 rfl (lv_at hl 3 rfl) ?_
  refine lv_aload_n hx hb dL_law_2210 rfl (lv_at hl 1 rfl) ?_
  refine lv_iload hx hb dL_law_2211 (lv_at hl 6 rfl) ?_
  refine lv_iconst (v := 1) hx hb dL_law_2213 (by decide) ?_
  refine lv_iadd hx hb dL_law_2214 ?_
  refine r_sld hx hb hX hbl hbA hS h1 dL_law_2215 ?_
  obtain ⟨q2, e2, hr⟩ := ob hr
  refine cal_i (run_V (As := [.int y1]) (rest := []) C hV hS (c_X10_account l G b0 q1.2 y1 q2 e2) (rcv hK hV (kd_lt z_208 (by decide)) (cel_20 z_208) rfl) q_1809 q_1810 q_1811 q_151 q_1812 dk_X10_account (by decide) hl.1 rfl (Nat.le_of_ble_eq_true rfl) dL_law_2216 hc) hS (fun H locs hV hS => ?_)
  refine lv_istore (lv' := [(7, .int q2.1), (6, .int q1.1), (0, .ref b), (1, .ref (b0 + 0)), (2, .ref (b0 + 208)), (3, .ref (b0 + 216)), (4, .ref (b0 + 217)), (5, .int x5)]) hx hb dL_law_2219 hl (by decide) rfl (fun ls hl => ?_)
  refine lv_aload_n hx hb dL_law_2221 rfl (lv_at hl 4 rfl) ?_
  obtain ⟨q3, e3, hr⟩ := ob hr
  refine cal_i (run_V (As := []) (rest := []) C hV hS (c_X10_thrown l G b0 q2.2 q3 e3) (rcv hK hV (kd_lt z_208 (by decide)) (cel_20 z_208) rfl) q_1470 q_1471 q_1472 q_151 q_1473 dk_X10_thrown (by decide) hl.1 rfl (Nat.le_of_ble_eq_true rfl) dL_law_2222 hc) hS (fun H locs hV hS => ?_)
  refine lv_iload hx hb dL_law_2225 (lv_at hl 1 rfl) ?_
  refine lv_icmp_eq (tgt := 2232) hx hb dL_law_2227 (by decide) (fun b_4 => ?_) (fun b_4 => ?_)
  · have hr := it b_4 hr
    refine lv_iload hx hb dL_law_2232 (lv_at hl 1 rfl) ?_
    refine lv_if_ne (tgt := 2249) hx hb dL_law_2234 (by decide) (fun b_5 => ?_) (fun b_5 => ?_)
    · have hr := ie b_5 hr
      refine lv_goto (tgt := 2366) hx hb dL_law_2249 (by decide) ?_
      obtain rfl := Option.some.inj hr
      exact kk _ _ ls hV hS (lv_sub hl [2, 3, 4, 5, 6, 7] rfl)
    · have hr := it b_5 hr
      refine lv_aload_n hx hb dL_law_2237 rfl (lv_at hl 5 rfl) ?_
      refine lv_iconst (v := 0) hx hb dL_law_2238 (by decide) ?_
      refine a_28 C hV dL_law_2239 ?_
      refine lv_iload hx hb dL_law_2240 (lv_at hl 0 rfl) ?_
      refine lv_i2l (v := (q2.1).toInt64) hx hb dL_law_2242 rfl ?_
      refine r_lcmp (x := q2.2 216 0) (y := q2.1) hx hb dL_law_2243 ?_
      refine lv_if_eq (tgt := 2249) hx hb dL_law_2244 (by decide) (fun b_6 => ?_) (fun b_6 => ?_)
      · have hr := it b_6 hr
        refine lv_goto (tgt := 2366) hx hb dL_law_2249 (by decide) ?_
        obtain rfl := Option.some.inj hr
        exact kk _ _ ls hV hS (lv_sub hl [2, 3, 4, 5, 6, 7] rfl)
      · have hr := ie b_6 hr
        cases hr
  · have hr := ie b_4 hr
    cases hr
set_option maxHeartbeats 4000000 in
set_option maxRecDepth 100000 in
theorem kc_31 (hfl : l.stackTraces = false) (C : Cx p l s m args meth c G b0 R_own cL_law 9 ret0) (hX : va_X b L xs s s.heap) (hbl : b < s.heap.size) (hbA : ¬ Ab b0 b) (hc : kc + 1 ≤ room_1.cells ∧ ks + 6 ≤ room_1.slots) (hV : Hd G b0 V H) (hS : va_S (Ab b0) s.heap H locs) (hl : lv_has ls 9 [(0, .ref b), (1, .ref (b0 + 0)), (2, .ref (b0 + 208)), (3, .ref (b0 + 216)), (4, .ref (b0 + 217)), (5, .int x5)]) {V1 : St} (hr : k_31 V = some V1)
    (kk : ∀ (H1 : Heap) (locs1 : List Loc) (ls : Array Slot), Hd G b0 V1 H1 → va_S (Ab b0) s.heap H1 locs1 → lv_has ls 9 [(0, .ref b), (1, .ref (b0 + 0)), (2, .ref (b0 + 208)), (3, .ref (b0 + 216)), (4, .ref (b0 + 217)), (5, .int x5)] → W p l e room_1 s m args below meth c H1 locs1 (kc + 1) (ks + 6) Q (F0 m 2366 ls [])) : W p l e room_1 s m args below meth c H locs kc ks Q (F0 m 2252 ls []) := by
  obtain ⟨hx, hb, hrt, hml, hown, hts, hlocks, hK, hSv⟩ := id C
  unfold k_31 at hr
  refine lv_aload_n hx hb dL_law_2252 rfl (lv_at hl 1 rfl) ?_
  obtain ⟨q1, e1, hr⟩ := ob hr
  refine cal_i (run_V (As := []) (rest := []) C hV hS (c_X9_isBalanced l G b0 V q1 e1) (rcv hK hV (kd_lt z_0 (by decide)) (cel_0 z_0) rfl) q_420 q_421 q_422 q_141 q_423 dk_X9_isBalanced (by decide) hl.1 rfl (Nat.le_of_ble_eq_true rfl) dL_law_2253 ⟨Nat.le_trans (Nat.le_succ _) hc.1, Nat.le_trans (Nat.le_add_right _ 6) hc.2⟩) hS (fun H locs hV hS => ?_)
  refine lv_aload_n hx hb dL_law_2256 rfl (lv_at hl 2 rfl) ?_
  obtain ⟨q2, e2, hr⟩ := ob hr
  refine cal_i (run_V (As := []) (rest := [.int q1.1]) C hV hS (c_X10_isBalanced l G b0 q1.2 q2 e2) (rcv hK hV (kd_lt z_208 (by decide)) (cel_20 z_208) rfl) q_1821 q_1822 q_1823 q_151 q_1824 dk_X10_isBalanced (by decide) hl.1 rfl (Nat.le_of_ble_eq_true rfl) dL_law_2257 ⟨Nat.le_trans (Nat.le_succ _) hc.1, Nat.le_trans (Nat.le_add_right _ 6) hc.2⟩) hS (fun H locs hV hS => ?_)
  refine lv_icmp_eq (tgt := 2366) hx hb dL_law_2260 (by decide) (fun b_3 => ?_) (fun b_3 => ?_)
  · have hr := it b_3 hr
    obtain rfl := Option.some.inj hr
    refine W.widen (k := kc + 1) (n := ks + 6) (by omega) (by omega) ?_
    exact kk _ _ ls hV hS (lv_sub hl [0, 1, 2, 3, 4, 5] rfl)
  · have hr := ie b_3 hr
    cases hr
set_option maxHeartbeats 4000000 in
set_option maxRecDepth 100000 in
theorem kc_32 (hfl : l.stackTraces = false) (C : Cx p l s m args meth c G b0 R_own cL_law 9 ret0) (hX : va_X b L xs s s.heap) (hbl : b < s.heap.size) (hbA : ¬ Ab b0 b) (hc : kc + 1 ≤ room_1.cells ∧ ks + 6 ≤ room_1.slots) (hV : Hd G b0 V H) (hS : va_S (Ab b0) s.heap H locs) (hl : lv_has ls 9 [(0, .ref b), (1, .ref (b0 + 0)), (2, .ref (b0 + 208)), (3, .ref (b0 + 216)), (4, .ref (b0 + 217)), (5, .int x5)]) {V1 : St} (hr : k_32 V = some V1)
    (kk : ∀ (H1 : Heap) (locs1 : List Loc) (ls : Array Slot), Hd G b0 V1 H1 → va_S (Ab b0) s.heap H1 locs1 → lv_has ls 9 [(0, .ref b), (1, .ref (b0 + 0)), (2, .ref (b0 + 208)), (3, .ref (b0 + 216)), (4, .ref (b0 + 217)), (5, .int x5)] → W p l e room_1 s m args below meth c H1 locs1 (kc + 1) (ks + 6) Q (F0 m 2366 ls [])) : W p l e room_1 s m args below meth c H locs kc ks Q (F0 m 2265 ls []) := by
  obtain ⟨hx, hb, hrt, hml, hown, hts, hlocks, hK, hSv⟩ := id C
  unfold k_32 at hr
  refine lv_aload_n hx hb dL_law_2265 rfl (lv_at hl 1 rfl) ?_
  refine lv_aload_n hx hb dL_law_2266 rfl (lv_at hl 3 rfl) ?_
  obtain ⟨q1, e1, hr⟩ := ob hr
  refine cal_h (run_H (As := [.ref (b0 + 0), .ref (b0 + 216)]) (rest := []) C hV hS (c_L_undo l hfl G b0 V q1 e1) q_1361 q_1362 q_140 q_1363 dk_L_undo (by decide) hl.1 rfl (Nat.le_of_ble_eq_true rfl) dL_law_2267 hc) hS (fun H locs hV hS => ?_)
  refine lv_istore (lv' := [(6, .int q1.1), (0, .ref b), (1, .ref (b0 + 0)), (2, .ref (b0 + 208)), (3, .ref (b0 + 216)), (4, .ref (b0 + 217)), (5, .int x5)]) hx hb dL_law_2270 hl (by decide) rfl (fun ls hl => ?_)
  refine lv_aload_n hx hb dL_law_2272 rfl (lv_at hl 3 rfl) ?_
  obtain ⟨q2, e2, hr⟩ := ob hr
  refine cal_i (run_V (As := []) (rest := []) C hV hS (c_X10_undo l G b0 q1.2 q2 e2) (rcv hK hV (kd_lt z_208 (by decide)) (cel_20 z_208) rfl) q_1825 q_1826 q_1827 q_151 q_1828 dk_X10_undo (by decide) hl.1 rfl (Nat.le_of_ble_eq_true rfl) dL_law_2273 hc) hS (fun H locs hV hS => ?_)
  refine lv_istore (lv' := [(7, .int q2.1), (6, .int q1.1), (0, .ref b), (1, .ref (b0 + 0)), (2, .ref (b0 + 208)), (3, .ref (b0 + 216)), (4, .ref (b0 + 217)), (5, .int x5)]) hx hb dL_law_2276 hl (by decide) rfl (fun ls hl => ?_)
  refine lv_aload_n hx hb dL_law_2278 rfl (lv_at hl 4 rfl) ?_
  obtain ⟨q3, e3, hr⟩ := ob hr
  refine cal_i (run_V (As := []) (rest := []) C hV hS (c_X10_thrown l G b0 q2.2 q3 e3) (rcv hK hV (kd_lt z_208 (by decide)) (cel_20 z_208) rfl) q_1470 q_1471 q_1472 q_151 q_1473 dk_X10_thrown (by decide) hl.1 rfl (Nat.le_of_ble_eq_true rfl) dL_law_2279 hc) hS (fun H locs hV hS => ?_)
  refine lv_iload hx hb dL_law_2282 (lv_at hl 1 rfl) ?_
  refine lv_icmp_eq (tgt := 2289) hx hb dL_law_2284 (by decide) (fun b_4 => ?_) (fun b_4 => ?_)
  · have hr := it b_4 hr
    refine lv_iload hx hb dL_law_2289 (lv_at hl 1 rfl) ?_
    refine lv_if_ne (tgt := 2306) hx hb dL_law_2291 (by decide) (fun b_5 => ?_) (fun b_5 => ?_)
    · have hr := ie b_5 hr
      refine lv_goto (tgt := 2366) hx hb dL_law_2306 (by decide) ?_
      obtain rfl := Option.some.inj hr
      exact kk _ _ ls hV hS (lv_sub hl [2, 3, 4, 5, 6, 7] rfl)
    · have hr := it b_5 hr
      refine lv_aload_n hx hb dL_law_2294 rfl (lv_at hl 5 rfl) ?_
      refine lv_iconst (v := 0) hx hb dL_law_2295 (by decide) ?_
      refine a_28 C hV dL_law_2296 ?_
      refine lv_iload hx hb dL_law_2297 (lv_at hl 0 rfl) ?_
      refine lv_i2l (v := (q2.1).toInt64) hx hb dL_law_2299 rfl ?_
      refine r_lcmp (x := q2.2 216 0) (y := q2.1) hx hb dL_law_2300 ?_
      refine lv_if_eq (tgt := 2306) hx hb dL_law_2301 (by decide) (fun b_6 => ?_) (fun b_6 => ?_)
      · have hr := it b_6 hr
        refine lv_goto (tgt := 2366) hx hb dL_law_2306 (by decide) ?_
        obtain rfl := Option.some.inj hr
        exact kk _ _ ls hV hS (lv_sub hl [2, 3, 4, 5, 6, 7] rfl)
      · have hr := ie b_6 hr
        cases hr
  · have hr := ie b_4 hr
    cases hr
set_option maxHeartbeats 4000000 in
set_option maxRecDepth 100000 in
theorem kc_33 (hfl : l.stackTraces = false) (C : Cx p l s m args meth c G b0 R_own cL_law 9 ret0) (hX : va_X b L xs s s.heap) (hbl : b < s.heap.size) (hbA : ¬ Ab b0 b) (hc : kc + 1 ≤ room_1.cells ∧ ks + 6 ≤ room_1.slots) (hV : Hd G b0 V H) (hS : va_S (Ab b0) s.heap H locs) (hl : lv_has ls 9 [(0, .ref b), (1, .ref (b0 + 0)), (2, .ref (b0 + 208)), (3, .ref (b0 + 216)), (4, .ref (b0 + 217)), (5, .int x5)]) {V1 : St} (hr : k_33 V = some V1)
    (kk : ∀ (H1 : Heap) (locs1 : List Loc) (ls : Array Slot), Hd G b0 V1 H1 → va_S (Ab b0) s.heap H1 locs1 → lv_has ls 9 [(0, .ref b), (1, .ref (b0 + 0)), (2, .ref (b0 + 208)), (3, .ref (b0 + 216)), (4, .ref (b0 + 217)), (5, .int x5)] → W p l e room_1 s m args below meth c H1 locs1 (kc + 1) (ks + 6) Q (F0 m 2366 ls [])) : W p l e room_1 s m args below meth c H locs kc ks Q (F0 m 2309 ls []) := by
  obtain ⟨hx, hb, hrt, hml, hown, hts, hlocks, hK, hSv⟩ := id C
  unfold k_33 at hr
  refine lv_aload_n hx hb dL_law_2309 rfl (lv_at hl 1 rfl) ?_
  obtain ⟨q1, e1, hr⟩ := ob hr
  refine cal_i (run_V (As := []) (rest := []) C hV hS (c_X9_save l G b0 V q1 e1) (rcv hK hV (kd_lt z_0 (by decide)) (cel_0 z_0) rfl) q_547 q_548 q_549 q_141 q_550 dk_X9_save (by decide) hl.1 rfl (Nat.le_of_ble_eq_true rfl) dL_law_2310 ⟨Nat.le_trans (Nat.le_succ _) hc.1, Nat.le_trans (Nat.le_add_right _ 6) hc.2⟩) hS (fun H locs hV hS => ?_)
  refine lv_aload_n hx hb dL_law_2313 rfl (lv_at hl 2 rfl) ?_
  obtain ⟨q2, e2, hr⟩ := ob hr
  refine cal_i (run_V (As := []) (rest := [.int q1.1]) C hV hS (c_X10_save l G b0 q1.2 q2 e2) (rcv hK hV (kd_lt z_208 (by decide)) (cel_20 z_208) rfl) q_1829 q_1830 q_1831 q_151 q_1832 dk_X10_save (by decide) hl.1 rfl (Nat.le_of_ble_eq_true rfl) dL_law_2314 ⟨Nat.le_trans (Nat.le_succ _) hc.1, Nat.le_trans (Nat.le_add_right _ 6) hc.2⟩) hS (fun H locs hV hS => ?_)
  refine lv_icmp_eq (tgt := 2366) hx hb dL_law_2317 (by decide) (fun b_3 => ?_) (fun b_3 => ?_)
  · have hr := it b_3 hr
    obtain rfl := Option.some.inj hr
    refine W.widen (k := kc + 1) (n := ks + 6) (by omega) (by omega) ?_
    exact kk _ _ ls hV hS (lv_sub hl [0, 1, 2, 3, 4, 5] rfl)
  · have hr := ie b_3 hr
    cases hr
set_option maxHeartbeats 4000000 in
set_option maxRecDepth 100000 in
theorem kc_34 (hfl : l.stackTraces = false) (C : Cx p l s m args meth c G b0 R_own cL_law 9 ret0) (hX : va_X b L xs s s.heap) (hbl : b < s.heap.size) (hbA : ¬ Ab b0 b) (hc : kc + 1 ≤ room_1.cells ∧ ks + 6 ≤ room_1.slots) (hV : Hd G b0 V H) (hS : va_S (Ab b0) s.heap H locs) (hl : lv_has ls 9 [(0, .ref b), (1, .ref (b0 + 0)), (2, .ref (b0 + 208)), (3, .ref (b0 + 216)), (4, .ref (b0 + 217)), (5, .int x5)]) {V1 : St} (hr : k_34 V = some V1)
    (kk : ∀ (H1 : Heap) (locs1 : List Loc) (ls : Array Slot), Hd G b0 V1 H1 → va_S (Ab b0) s.heap H1 locs1 → lv_has ls 9 [(0, .ref b), (1, .ref (b0 + 0)), (2, .ref (b0 + 208)), (3, .ref (b0 + 216)), (4, .ref (b0 + 217)), (5, .int x5)] → W p l e room_1 s m args below meth c H1 locs1 (kc + 1) (ks + 6) Q (F0 m 2366 ls [])) : W p l e room_1 s m args below meth c H locs kc ks Q (F0 m 2322 ls []) := by
  obtain ⟨hx, hb, hrt, hml, hown, hts, hlocks, hK, hSv⟩ := id C
  unfold k_34 at hr
  refine lv_aload_n hx hb dL_law_2322 rfl (lv_at hl 1 rfl) ?_
  refine lv_aload_n hx hb dL_law_2323 rfl (lv_at hl 3 rfl) ?_
  obtain ⟨q1, e1, hr⟩ := ob hr
  refine cal_h (run_H (As := [.ref (b0 + 0), .ref (b0 + 216)]) (rest := []) C hV hS (c_L_restore l hfl G b0 V q1 e1) q_1373 q_1374 q_140 q_1375 dk_L_restore (by decide) hl.1 rfl (Nat.le_of_ble_eq_true rfl) dL_law_2324 hc) hS (fun H locs hV hS => ?_)
  refine lv_istore (lv' := [(6, .int q1.1), (0, .ref b), (1, .ref (b0 + 0)), (2, .ref (b0 + 208)), (3, .ref (b0 + 216)), (4, .ref (b0 + 217)), (5, .int x5)]) hx hb dL_law_2327 hl (by decide) rfl (fun ls hl => ?_)
  refine lv_aload_n hx hb dL_law_2329 rfl (lv_at hl 3 rfl) ?_
  obtain ⟨q2, e2, hr⟩ := ob hr
  refine cal_i (run_V (As := []) (rest := []) C hV hS (c_X10_restore l G b0 q1.2 q2 e2) (rcv hK hV (kd_lt z_208 (by decide)) (cel_20 z_208) rfl) q_1833 q_1834 q_1835 q_151 q_1836 dk_X10_restore (by decide) hl.1 rfl (Nat.le_of_ble_eq_true rfl) dL_law_2330 hc) hS (fun H locs hV hS => ?_)
  refine lv_istore (lv' := [(7, .int q2.1), (6, .int q1.1), (0, .ref b), (1, .ref (b0 + 0)), (2, .ref (b0 + 208)), (3, .ref (b0 + 216)), (4, .ref (b0 + 217)), (5, .int x5)]) hx hb dL_law_2333 hl (by decide) rfl (fun ls hl => ?_)
  refine lv_aload_n hx hb dL_law_2335 rfl (lv_at hl 4 rfl) ?_
  obtain ⟨q3, e3, hr⟩ := ob hr
  refine cal_i (run_V (As := []) (rest := []) C hV hS (c_X10_thrown l G b0 q2.2 q3 e3) (rcv hK hV (kd_lt z_208 (by decide)) (cel_20 z_208) rfl) q_1470 q_1471 q_1472 q_151 q_1473 dk_X10_thrown (by decide) hl.1 rfl (Nat.le_of_ble_eq_true rfl) dL_law_2336 hc) hS (fun H locs hV hS => ?_)
  refine lv_iload hx hb dL_law_2339 (lv_at hl 1 rfl) ?_
  refine lv_icmp_eq (tgt := 2346) hx hb dL_law_2341 (by decide) (fun b_4 => ?_) (fun b_4 => ?_)
  · have hr := it b_4 hr
    refine lv_iload hx hb dL_law_2346 (lv_at hl 1 rfl) ?_
    refine lv_if_ne (tgt := 2363) hx hb dL_law_2348 (by decide) (fun b_5 => ?_) (fun b_5 => ?_)
    · have hr := ie b_5 hr
      refine lv_goto (tgt := 2366) hx hb dL_law_2363 (by decide) ?_
      obtain rfl := Option.some.inj hr
      exact kk _ _ ls hV hS (lv_sub hl [2, 3, 4, 5, 6, 7] rfl)
    · have hr := it b_5 hr
      refine lv_aload_n hx hb dL_law_2351 rfl (lv_at hl 5 rfl) ?_
      refine lv_iconst (v := 0) hx hb dL_law_2352 (by decide) ?_
      refine a_28 C hV dL_law_2353 ?_
      refine lv_iload hx hb dL_law_2354 (lv_at hl 0 rfl) ?_
      refine lv_i2l (v := (q2.1).toInt64) hx hb dL_law_2356 rfl ?_
      refine r_lcmp (x := q2.2 216 0) (y := q2.1) hx hb dL_law_2357 ?_
      refine lv_if_eq (tgt := 2363) hx hb dL_law_2358 (by decide) (fun b_6 => ?_) (fun b_6 => ?_)
      · have hr := it b_6 hr
        refine lv_goto (tgt := 2366) hx hb dL_law_2363 (by decide) ?_
        obtain rfl := Option.some.inj hr
        exact kk _ _ ls hV hS (lv_sub hl [2, 3, 4, 5, 6, 7] rfl)
      · have hr := ie b_6 hr
        cases hr
  · have hr := ie b_4 hr
    cases hr
end LK
