set_option maxHeartbeats 4000000 in
set_option maxRecDepth 100000 in
theorem c_X10_isTorn (l : Launch) (G : LG) (b0 : Nat) (V : St) (x1 : Int32) (x2 : Int32) (x3 : Int32) (res : Int32 × St) (hr : f_X10_isTorn V x1 x2 x3 = some res) : Met l yX10_isTorn (wy yX10_isTorn cX10_isTorn 4 (some .boolean)) (rm 2) (va_Pc [.ref (b0 + 208), .int x1, .int x2, .int x3] (Iv G b0 V)) (QI G b0 res.1 res.2) 0 0 (Ab b0) := by
  refine mk_m (by decide +kernel) (Nat.le_of_ble_eq_true rfl) ?_
  intro p e s m below meth c C hV hS ls hl
  obtain ⟨args, hargs⟩ : ∃ z, z = ([.ref (b0 + 208), .int x1, .int x2, .int x3] : List Value).toArray := ⟨_, rfl⟩
  rw [← hargs] at C ⊢
  obtain ⟨hx, hb, hrt, hml, hown, hts, hlocks, hK, hSv⟩ := id C
  have hl : lv_has ls 4 [(0, .ref (b0 + 208)), (1, .int x1), (2, .int x2), (3, .int x3)] := hl
  have K_70 : ∀ (V : St) (y0 : Int32) (y1 : Int32), f_X10_isTorn_b70 V y0 y1 = some res → ∀ (H : Heap) (locs : List Loc) (ls : Array Slot), Hd G b0 V H → va_S (Ab b0) s.heap H locs → lv_has ls 4 [] → W p l e (rm 2) s m args below meth c H locs 0 0 (MQ below (QI G b0 res.1 res.2) args s 0 0 (Ab b0)) (F0 m 70 ls [.int y0, .int y1]) := by
    intro V y0 y1 hr H locs ls hV hS hl
    unfold f_X10_isTorn_b70 at hr
    refine lv_ishr hx hb dX10_isTorn_70 ?_
    refine lv_iconst (v := 1) hx hb dX10_isTorn_71 (by decide) ?_
    refine lv_iand hx hb dX10_isTorn_72 ?_
    refine lv_iconst (v := 1) hx hb dX10_isTorn_73 (by decide) ?_
    refine lv_icmp_ne (tgt := 81) hx hb dX10_isTorn_74 (by decide) (fun b_1 => ?_) (fun b_1 => ?_)
    · have hr := ie b_1 hr
      refine lv_iconst (v := 0) hx hb dX10_isTorn_81 (by decide) ?_
      rw [← Option.some.inj hr]
      exact fin_z C hV hS (by decide) rfl dX10_isTorn_82
    · have hr := it b_1 hr
      refine lv_iconst (v := 1) hx hb dX10_isTorn_77 (by decide) ?_
      refine lv_goto (tgt := 82) hx hb dX10_isTorn_78 (by decide) ?_
      rw [← Option.some.inj hr]
      exact fin_z C hV hS (by decide) rfl dX10_isTorn_82
  have K_40 : ∀ (V : St) (x1 : Int32) (x2 : Int32) (x3 : Int32) (y0 : Int32), f_X10_isTorn_b40 V x1 x2 x3 y0 = some res → ∀ (H : Heap) (locs : List Loc) (ls : Array Slot), Hd G b0 V H → va_S (Ab b0) s.heap H locs → lv_has ls 4 [(0, .ref (b0 + 208)), (1, .int x1), (2, .int x2), (3, .int x3)] → W p l e (rm 2) s m args below meth c H locs 0 0 (MQ below (QI G b0 res.1 res.2) args s 0 0 (Ab b0)) (F0 m 40 ls [.int y0, .ref (b0 + 208)]) := by
    intro V x1 x2 x3 y0 hr H locs ls hV hS hl
    unfold f_X10_isTorn_b40 at hr
    refine p_X10_0 (x := y0) C hV hS q_1391 dX10_isTorn_40 (fun H locs hV hS => ?_)
    refine lv_aload_n hx hb dX10_isTorn_43 rfl (lv_at hl 0 rfl) ?_
    refine g_X10_0 C hV q_1391 dX10_isTorn_44 ?_
    refine lv_if_ne (tgt := 81) hx hb dX10_isTorn_47 (by decide) (fun b_2 => ?_) (fun b_2 => ?_)
    · have hr := ie b_2 hr
      refine lv_iconst (v := 0) hx hb dX10_isTorn_81 (by decide) ?_
      rw [← Option.some.inj hr]
      exact fin_z C hV hS (by decide) rfl dX10_isTorn_82
    · have hr := it b_2 hr
      refine lv_aload_n hx hb dX10_isTorn_50 rfl (lv_at hl 0 rfl) ?_
      refine lv_iload_n hx hb dX10_isTorn_51 rfl (lv_at hl 1 rfl) ?_
      refine lv_iload_n hx hb dX10_isTorn_52 rfl (lv_at hl 2 rfl) ?_
      refine lv_iload_n hx hb dX10_isTorn_53 rfl (lv_at hl 3 rfl) ?_
      obtain ⟨q3, e3, hr⟩ := ob hr
      refine cal_i (run_S (As := [.int x2, .int x3]) (rest := [.int x1, .ref (b0 + 208)]) C hV hS (c_X10_stringFor l G b0 (up V 208 0 y0) x2 x3 q3 e3) q_1535 q_1536 q_151 q_1537 dk_X10_stringFor (rm_ok (by decide) (by decide)) hl.1 rfl (Nat.le_of_ble_eq_true rfl) dX10_isTorn_54 ⟨Nat.zero_le _, Nat.zero_le _⟩) hS (fun H locs hV hS => ?_)
      obtain ⟨q4, e4, hr⟩ := ob hr
      refine cal_i (run_V (As := [.int x1, .int q3]) (rest := []) C hV hS (c_X10_of l G b0 (up V 208 0 y0) x1 q3 q4 e4) (rcv hK hV (kd_lt z_208 (by decide)) (cel_20 z_208) rfl) q_1503 q_1505 q_98 q_151 q_1506 dk_X10_of (rm_ok (by decide) (by decide)) hl.1 rfl (Nat.le_of_ble_eq_true rfl) dX10_isTorn_57 ⟨Nat.zero_le _, Nat.zero_le _⟩) hS (fun H locs hV hS => ?_)
      refine lv_iload_n hx hb dX10_isTorn_60 rfl (lv_at hl 2 rfl) ?_
      refine lv_iload_n hx hb dX10_isTorn_61 rfl (lv_at hl 3 rfl) ?_
      refine lv_icmp_ge (tgt := 69) hx hb dX10_isTorn_62 (by decide) (fun b_5 => ?_) (fun b_5 => ?_)
      · have hr := it b_5 hr
        refine lv_iload_n hx hb dX10_isTorn_69 rfl (lv_at hl 3 rfl) ?_
        exact K_70 _ x3 q4 hr _ _ ls hV hS (lv_sub hl [] rfl)
      · have hr := ie b_5 hr
        refine lv_iload_n hx hb dX10_isTorn_65 rfl (lv_at hl 2 rfl) ?_
        refine lv_goto (tgt := 70) hx hb dX10_isTorn_66 (by decide) ?_
        exact K_70 _ x2 q4 hr _ _ ls hV hS (lv_sub hl [] rfl)
  have K_22 : ∀ (V : St) (x1 : Int32) (x2 : Int32) (x3 : Int32), f_X10_isTorn_b22 V x1 x2 x3 = some res → ∀ (H : Heap) (locs : List Loc) (ls : Array Slot), Hd G b0 V H → va_S (Ab b0) s.heap H locs → lv_has ls 4 [(0, .ref (b0 + 208)), (1, .int x1), (2, .int x2), (3, .int x3)] → W p l e (rm 2) s m args below meth c H locs 0 0 (MQ below (QI G b0 res.1 res.2) args s 0 0 (Ab b0)) (F0 m 22 ls [.ref (b0 + 208)]) := by
    intro V x1 x2 x3 hr H locs ls hV hS hl
    unfold f_X10_isTorn_b22 at hr
    refine lv_iconst (v := 1) hx hb dX10_isTorn_22 (by decide) ?_
    refine lv_goto (tgt := 40) hx hb dX10_isTorn_23 (by decide) ?_
    exact K_40 _ x1 x2 x3 1 hr _ _ ls hV hS (lv_sub hl [0, 1, 2, 3] rfl)
  unfold f_X10_isTorn at hr
  refine lv_aload_n hx hb dX10_isTorn_0 rfl (lv_at hl 0 rfl) ?_
  refine lv_iload_n hx hb dX10_isTorn_1 rfl (lv_at hl 1 rfl) ?_
  obtain ⟨q6, e6, hr⟩ := ob hr
  refine cal_i (run_S (As := [.int x1]) (rest := [.ref (b0 + 208)]) C hV hS (c_X10_isNet l G b0 V x1 q6 e6) q_1486 q_1487 q_151 q_1488 dk_X10_isNet (rm_ok (by decide) (by decide)) hl.1 rfl (Nat.le_of_ble_eq_true rfl) dX10_isTorn_2 ⟨Nat.zero_le _, Nat.zero_le _⟩) hS (fun H locs hV hS => ?_)
  refine lv_if_eq (tgt := 22) hx hb dX10_isTorn_5 (by decide) (fun b_7 => ?_) (fun b_7 => ?_)
  · have hr := it b_7 hr
    exact K_22 _ x1 x2 x3 hr _ _ ls hV hS (lv_sub hl [0, 1, 2, 3] rfl)
  · have hr := ie b_7 hr
    refine lv_iload_n hx hb dX10_isTorn_8 rfl (lv_at hl 2 rfl) ?_
    obtain ⟨q8, e8, hr⟩ := ob hr
    refine cal_i (run_S (As := [.int x2]) (rest := [.ref (b0 + 208)]) C hV hS (c_X10_isPlace l G b0 V x2 q8 e8) q_1496 q_1497 q_151 q_1498 dk_X10_isPlace (rm_ok (by decide) (by decide)) hl.1 rfl (Nat.le_of_ble_eq_true rfl) dX10_isTorn_9 ⟨Nat.zero_le _, Nat.zero_le _⟩) hS (fun H locs hV hS => ?_)
    refine lv_if_eq (tgt := 22) hx hb dX10_isTorn_12 (by decide) (fun b_9 => ?_) (fun b_9 => ?_)
    · have hr := it b_9 hr
      exact K_22 _ x1 x2 x3 hr _ _ ls hV hS (lv_sub hl [0, 1, 2, 3] rfl)
    · have hr := ie b_9 hr
      refine lv_iload_n hx hb dX10_isTorn_15 rfl (lv_at hl 3 rfl) ?_
      obtain ⟨q10, e10, hr⟩ := ob hr
      refine cal_i (run_S (As := [.int x3]) (rest := [.ref (b0 + 208)]) C hV hS (c_X10_isPlace l G b0 V x3 q10 e10) q_1496 q_1497 q_151 q_1498 dk_X10_isPlace (rm_ok (by decide) (by decide)) hl.1 rfl (Nat.le_of_ble_eq_true rfl) dX10_isTorn_16 ⟨Nat.zero_le _, Nat.zero_le _⟩) hS (fun H locs hV hS => ?_)
      refine lv_if_ne (tgt := 26) hx hb dX10_isTorn_19 (by decide) (fun b_11 => ?_) (fun b_11 => ?_)
      · have hr := ie b_11 hr
        refine lv_iload_n hx hb dX10_isTorn_26 rfl (lv_at hl 2 rfl) ?_
        refine lv_iload_n hx hb dX10_isTorn_27 rfl (lv_at hl 3 rfl) ?_
        obtain ⟨q12, e12, hr⟩ := ob hr
        refine cal_i (run_S (As := [.int x2, .int x3]) (rest := [.ref (b0 + 208)]) C hV hS (c_X10_stringFor l G b0 V x2 x3 q12 e12) q_1535 q_1536 q_151 q_1537 dk_X10_stringFor (rm_ok (by decide) (by decide)) hl.1 rfl (Nat.le_of_ble_eq_true rfl) dX10_isTorn_28 ⟨Nat.zero_le _, Nat.zero_le _⟩) hS (fun H locs hV hS => ?_)
        refine lv_iconst (v := (-1)) hx hb dX10_isTorn_31 (by decide) ?_
        refine lv_icmp_ne (tgt := 39) hx hb dX10_isTorn_32 (by decide) (fun b_13 => ?_) (fun b_13 => ?_)
        · have hr := ie b_13 hr
          refine lv_iconst (v := 0) hx hb dX10_isTorn_39 (by decide) ?_
          exact K_40 _ x1 x2 x3 0 hr _ _ ls hV hS (lv_sub hl [0, 1, 2, 3] rfl)
        · have hr := it b_13 hr
          refine lv_iconst (v := 2) hx hb dX10_isTorn_35 (by decide) ?_
          refine lv_goto (tgt := 40) hx hb dX10_isTorn_36 (by decide) ?_
          exact K_40 _ x1 x2 x3 2 hr _ _ ls hV hS (lv_sub hl [0, 1, 2, 3] rfl)
      · have hr := it b_11 hr
        exact K_22 _ x1 x2 x3 hr _ _ ls hV hS (lv_sub hl [0, 1, 2, 3] rfl)
set_option maxHeartbeats 4000000 in
set_option maxRecDepth 100000 in
theorem c_X10_greatest (l : Launch) (G : LG) (b0 : Nat) (V : St) (x1 : Int32) (res : Int32 × St) (hr : f_X10_greatest V x1 = some res) : Met l yX10_greatest (wy yX10_greatest cX10_greatest 5 (some .int)) (rm 2) (va_Pc [.ref (b0 + 208), .int x1] (Iv G b0 V)) (QI G b0 res.1 res.2) 0 0 (Ab b0) := by
  refine mk_m (by decide +kernel) (Nat.le_of_ble_eq_true rfl) ?_
  intro p e s m below meth c C hV hS ls hl
  obtain ⟨args, hargs⟩ : ∃ z, z = ([.ref (b0 + 208), .int x1] : List Value).toArray := ⟨_, rfl⟩
  rw [← hargs] at C ⊢
  obtain ⟨hx, hb, hrt, hml, hown, hts, hlocks, hK, hSv⟩ := id C
  have hl : lv_has ls 5 [(0, .ref (b0 + 208)), (1, .int x1)] := hl
  have K_48 : ∀ (c_12 : St → Int32 → Int32 → Option (Int32 × St)) (hc_12 : ∀ (V : St) (x2 : Int32) (x3 : Int32), c_12 V x2 x3 = some res → ∀ (H : Heap) (locs : List Loc) (ls : Array Slot), Hd G b0 V H → va_S (Ab b0) s.heap H locs → lv_has ls 5 [(0, .ref (b0 + 208)), (2, .int x2), (3, .int x3)] → W p l e (rm 2) s m args below meth c H locs 0 0 (MQ below (QI G b0 res.1 res.2) args s 0 0 (Ab b0)) (F0 m 12 ls [])) (V : St) (x2 : Int32) (x4 : Int32) (y0 : Int32), f_X10_greatest_b48 c_12 V x2 x4 y0 = some res → ∀ (H : Heap) (locs : List Loc) (ls : Array Slot), Hd G b0 V H → va_S (Ab b0) s.heap H locs → lv_has ls 5 [(0, .ref (b0 + 208)), (2, .int x2), (4, .int x4)] → W p l e (rm 2) s m args below meth c H locs 0 0 (MQ below (QI G b0 res.1 res.2) args s 0 0 (Ab b0)) (F0 m 48 ls [.int y0]) := by
    intro c_12 hc_12 V x2 x4 y0 hr H locs ls hV hS hl
    unfold f_X10_greatest_b48 at hr
    refine lv_istore_n (lv' := [(3, .int y0), (0, .ref (b0 + 208)), (2, .int x2), (4, .int x4)]) hx hb dX10_greatest_48 rfl hl (by decide) rfl (fun ls hl => ?_)
    refine lv_iload_n hx hb dX10_greatest_49 rfl (lv_at hl 2 rfl) ?_
    refine lv_iload hx hb dX10_greatest_50 (lv_at hl 3 rfl) ?_
    refine lv_iconst (v := (-1)) hx hb dX10_greatest_52 (by decide) ?_
    refine lv_ixor hx hb dX10_greatest_53 ?_
    refine lv_iand hx hb dX10_greatest_54 ?_
    refine lv_istore_n (lv' := [(2, .int (x2 &&& (x4 ^^^ (-1)))), (3, .int y0), (0, .ref (b0 + 208)), (4, .int x4)]) hx hb dX10_greatest_55 rfl hl (by decide) rfl (fun ls hl => ?_)
    refine lv_goto (tgt := 12) hx hb dX10_greatest_56 (by decide) ?_
    exact hc_12 _ (x2 &&& (x4 ^^^ (-1))) y0 hr _ _ ls hV hS (lv_sub hl [2, 0, 1] rfl)
  have K_12 : ∀ (n : Nat) (V : St) (x2 : Int32) (x3 : Int32), f_X10_greatest_b12 n V x2 x3 = some res → ∀ (H : Heap) (locs : List Loc) (ls : Array Slot), Hd G b0 V H → va_S (Ab b0) s.heap H locs → lv_has ls 5 [(0, .ref (b0 + 208)), (2, .int x2), (3, .int x3)] → W p l e (rm 2) s m args below meth c H locs 0 0 (MQ below (QI G b0 res.1 res.2) args s 0 0 (Ab b0)) (F0 m 12 ls []) := by
    intro  n
    induction n with
    | zero =>
      intro V x2 x3 hr
      rw [f_X10_greatest_b12] at hr
      cases hr
    | succ n ih =>
      intro V x2 x3 hr H locs ls hV hS hl
      rw [f_X10_greatest_b12] at hr
      refine lv_iload_n hx hb dX10_greatest_12 rfl (lv_at hl 1 rfl) ?_
      refine lv_if_eq (tgt := 59) hx hb dX10_greatest_13 (by decide) (fun b_1 => ?_) (fun b_1 => ?_)
      · have hr := it b_1 hr
        refine lv_iload_n hx hb dX10_greatest_59 rfl (lv_at hl 2 rfl) ?_
        rw [← Option.some.inj hr]
        exact fin_i C hV hS rfl dX10_greatest_60
      · have hr := ie b_1 hr
        refine lv_aload_n hx hb dX10_greatest_16 rfl (lv_at hl 0 rfl) ?_
        refine lv_iload_n hx hb dX10_greatest_17 rfl (lv_at hl 1 rfl) ?_
        obtain ⟨q2, e2, hr⟩ := ob hr
        refine cal_i (run_S (As := [.int x2]) (rest := [.ref (b0 + 208)]) C hV hS (c_X10_lowest l G b0 V x2 q2 e2) q_1548 q_1549 q_151 q_1550 dk_X10_lowest (rm_ok (by decide) (by decide)) hl.1 rfl (Nat.le_of_ble_eq_true rfl) dX10_greatest_18 ⟨Nat.zero_le _, Nat.zero_le _⟩) hS (fun H locs hV hS => ?_)
        refine lv_aload_n hx hb dX10_greatest_21 rfl (lv_at hl 0 rfl) ?_
        refine g_X10_19 C hV q_1410 dX10_greatest_22 ?_
        obtain ⟨q3, e3, hr⟩ := ob hr
        refine cal_i (run_V (As := [.int q2, .int (V 208 19)]) (rest := []) C hV hS (c_X10_together l G b0 V q2 (V 208 19) q3 e3) (rcv hK hV (kd_lt z_208 (by decide)) (cel_20 z_208) rfl) q_1551 q_1553 q_107 q_151 q_1554 dk_X10_together (rm_ok (by decide) (by decide)) hl.1 rfl (Nat.le_of_ble_eq_true rfl) dX10_greatest_25 ⟨Nat.zero_le _, Nat.zero_le _⟩) hS (fun H locs hV hS => ?_)
        refine lv_istore (lv' := [(4, .int q3), (0, .ref (b0 + 208)), (2, .int x2), (3, .int x3)]) hx hb dX10_greatest_28 hl (by decide) rfl (fun ls hl => ?_)
        refine lv_iload hx hb dX10_greatest_30 (lv_at hl 0 rfl) ?_
        obtain ⟨q4, e4, hr⟩ := ob hr
        refine cal_i (run_S (As := [.int q3]) (rest := []) C hV hS (c_X10_bits l G b0 V q3 q4 e4) q_1595 q_1596 q_151 q_1597 dk_X10_bits (rm_ok (by decide) (by decide)) hl.1 rfl (Nat.le_of_ble_eq_true rfl) dX10_greatest_32 ⟨Nat.zero_le _, Nat.zero_le _⟩) hS (fun H locs hV hS => ?_)
        refine lv_iload_n hx hb dX10_greatest_35 rfl (lv_at hl 3 rfl) ?_
        refine lv_icmp_le (tgt := 47) hx hb dX10_greatest_36 (by decide) (fun b_5 => ?_) (fun b_5 => ?_)
        · have hr := it b_5 hr
          refine lv_iload_n hx hb dX10_greatest_47 rfl (lv_at hl 3 rfl) ?_
          exact K_48 (fun V x2 x3 => f_X10_greatest_b12 n V x2 x3) (fun V x2 x3 hr => ih V x2 x3 hr) _ x2 q3 x3 hr _ _ ls hV hS (lv_sub hl [1, 2, 0] rfl)
        · have hr := ie b_5 hr
          refine lv_iload hx hb dX10_greatest_39 (lv_at hl 0 rfl) ?_
          obtain ⟨q6, e6, hr⟩ := ob hr
          refine cal_i (run_S (As := [.int q3]) (rest := []) C hV hS (c_X10_bits l G b0 V q3 q6 e6) q_1595 q_1596 q_151 q_1597 dk_X10_bits (rm_ok (by decide) (by decide)) hl.1 rfl (Nat.le_of_ble_eq_true rfl) dX10_greatest_41 ⟨Nat.zero_le _, Nat.zero_le _⟩) hS (fun H locs hV hS => ?_)
          refine lv_goto (tgt := 48) hx hb dX10_greatest_44 (by decide) ?_
          exact K_48 (fun V x2 x3 => f_X10_greatest_b12 n V x2 x3) (fun V x2 x3 hr => ih V x2 x3 hr) _ x2 q3 q6 hr _ _ ls hV hS (lv_sub hl [1, 2, 0] rfl)
  unfold f_X10_greatest at hr
  refine lv_aload_n hx hb dX10_greatest_0 rfl (lv_at hl 0 rfl) ?_
  refine lv_iload_n hx hb dX10_greatest_1 rfl (lv_at hl 1 rfl) ?_
  obtain ⟨q7, e7, hr⟩ := ob hr
  refine cal_v (run_V (As := [.int x1]) (rest := []) C hV hS (c_X10_looksAt l G b0 V x1 q7 e7) (rcv hK hV (kd_lt z_208 (by decide)) (cel_20 z_208) rfl) q_1538 q_1540 q_105 q_151 q_1541 dk_X10_looksAt (rm_ok (by decide) (by decide)) hl.1 rfl (Nat.le_of_ble_eq_true rfl) dX10_greatest_2 ⟨Nat.zero_le _, Nat.zero_le _⟩) hS (fun H locs hV hS => ?_)
  refine lv_aload_n hx hb dX10_greatest_5 rfl (lv_at hl 0 rfl) ?_
  refine g_X10_19 C hV q_1410 dX10_greatest_6 ?_
  refine lv_istore_n (lv' := [(2, .int (q7 208 19)), (0, .ref (b0 + 208)), (1, .int x1)]) hx hb dX10_greatest_9 rfl hl (by decide) rfl (fun ls hl => ?_)
  refine lv_iconst (v := 0) hx hb dX10_greatest_10 (by decide) ?_
  refine lv_istore_n (lv' := [(3, .int 0), (2, .int (q7 208 19)), (0, .ref (b0 + 208)), (1, .int x1)]) hx hb dX10_greatest_11 rfl hl (by decide) rfl (fun ls hl => ?_)
  exact K_12 500 _ (q7 208 19) 0 hr _ _ ls hV hS (lv_sub hl [2, 1, 0] rfl)
set_option maxHeartbeats 4000000 in
set_option maxRecDepth 100000 in
theorem c_X10_tornIn (l : Launch) (G : LG) (b0 : Nat) (V : St) (x1 : Int32) (res : Int32) (hr : f_X10_tornIn V x1 = some res) : Met l yX10_tornIn (wy yX10_tornIn cX10_tornIn 2 (some .int)) (rm 1) (va_Pc [.ref (b0 + 208), .int x1] (Iv G b0 V)) (QI G b0 res V) 0 0 (Ab b0) := by
  refine mk_m (by decide +kernel) (Nat.le_of_ble_eq_true rfl) ?_
  intro p e s m below meth c C hV hS ls hl
  obtain ⟨args, hargs⟩ : ∃ z, z = ([.ref (b0 + 208), .int x1] : List Value).toArray := ⟨_, rfl⟩
  rw [← hargs] at C ⊢
  obtain ⟨hx, hb, hrt, hml, hown, hts, hlocks, hK, hSv⟩ := id C
  have hl : lv_has ls 2 [(0, .ref (b0 + 208)), (1, .int x1)] := hl
  unfold f_X10_tornIn at hr
  refine lv_aload_n hx hb dX10_tornIn_0 rfl (lv_at hl 0 rfl) ?_
  refine lv_iload_n hx hb dX10_tornIn_1 rfl (lv_at hl 1 rfl) ?_
  refine lv_iconst (v := 2) hx hb dX10_tornIn_2 (by decide) ?_
  obtain ⟨q1, e1, hr⟩ := ob hr
  refine cal_i (run_V (As := [.int x1, .int 2]) (rest := []) C hV hS (c_X10_of l G b0 V x1 2 q1 e1) (rcv hK hV (kd_lt z_208 (by decide)) (cel_20 z_208) rfl) q_1503 q_1505 q_98 q_151 q_1506 dk_X10_of (rm_ok (by decide) (by decide)) hl.1 rfl (Nat.le_of_ble_eq_true rfl) dX10_tornIn_3 ⟨Nat.zero_le _, Nat.zero_le _⟩) hS (fun H locs hV hS => ?_)
  obtain ⟨q2, e2, hr⟩ := ob hr
  refine cal_i (run_S (As := [.int q1]) (rest := []) C hV hS (c_X10_bits l G b0 V q1 q2 e2) q_1595 q_1596 q_151 q_1597 dk_X10_bits (rm_ok (by decide) (by decide)) hl.1 rfl (Nat.le_of_ble_eq_true rfl) dX10_tornIn_6 ⟨Nat.zero_le _, Nat.zero_le _⟩) hS (fun H locs hV hS => ?_)
  refine lv_aload_n hx hb dX10_tornIn_9 rfl (lv_at hl 0 rfl) ?_
  refine lv_iload_n hx hb dX10_tornIn_10 rfl (lv_at hl 1 rfl) ?_
  refine lv_iconst (v := 3) hx hb dX10_tornIn_11 (by decide) ?_
  obtain ⟨q3, e3, hr⟩ := ob hr
  refine cal_i (run_V (As := [.int x1, .int 3]) (rest := [.int q2]) C hV hS (c_X10_of l G b0 V x1 3 q3 e3) (rcv hK hV (kd_lt z_208 (by decide)) (cel_20 z_208) rfl) q_1503 q_1505 q_98 q_151 q_1506 dk_X10_of (rm_ok (by decide) (by decide)) hl.1 rfl (Nat.le_of_ble_eq_true rfl) dX10_tornIn_12 ⟨Nat.zero_le _, Nat.zero_le _⟩) hS (fun H locs hV hS => ?_)
  obtain ⟨q4, e4, hr⟩ := ob hr
  refine cal_i (run_S (As := [.int q3]) (rest := [.int q2]) C hV hS (c_X10_bits l G b0 V q3 q4 e4) q_1595 q_1596 q_151 q_1597 dk_X10_bits (rm_ok (by decide) (by decide)) hl.1 rfl (Nat.le_of_ble_eq_true rfl) dX10_tornIn_15 ⟨Nat.zero_le _, Nat.zero_le _⟩) hS (fun H locs hV hS => ?_)
  refine lv_iadd hx hb dX10_tornIn_18 ?_
  exact fin_i C hV hS (Option.some.inj hr) dX10_tornIn_19
set_option maxHeartbeats 4000000 in
set_option maxRecDepth 100000 in
theorem c_X10_netOf (l : Launch) (G : LG) (b0 : Nat) (V : St) (x1 : Int32) (x2 : Int32) (res : Int32 × St) (hr : f_X10_netOf V x1 x2 = some res) : Met l yX10_netOf (wy yX10_netOf cX10_netOf 3 (some .int)) (rm 4) (va_Pc [.ref (b0 + 208), .int x1, .int x2] (Iv G b0 V)) (QI G b0 res.1 res.2) 0 0 (Ab b0) := by
  refine mk_m (by decide +kernel) (Nat.le_of_ble_eq_true rfl) ?_
  intro p e s m below meth c C hV hS ls hl
  obtain ⟨args, hargs⟩ : ∃ z, z = ([.ref (b0 + 208), .int x1, .int x2] : List Value).toArray := ⟨_, rfl⟩
  rw [← hargs] at C ⊢
  obtain ⟨hx, hb, hrt, hml, hown, hts, hlocks, hK, hSv⟩ := id C
  have hl : lv_has ls 3 [(0, .ref (b0 + 208)), (1, .int x1), (2, .int x2)] := hl
  have K_13 : ∀ (V : St) (x1 : Int32) (x2 : Int32) (y0 : Int32), f_X10_netOf_b13 V x1 x2 y0 = some res → ∀ (H : Heap) (locs : List Loc) (ls : Array Slot), Hd G b0 V H → va_S (Ab b0) s.heap H locs → lv_has ls 3 [(0, .ref (b0 + 208)), (1, .int x1), (2, .int x2)] → W p l e (rm 4) s m args below meth c H locs 0 0 (MQ below (QI G b0 res.1 res.2) args s 0 0 (Ab b0)) (F0 m 13 ls [.int y0, .ref (b0 + 208)]) := by
    intro V x1 x2 y0 hr H locs ls hV hS hl
    unfold f_X10_netOf_b13 at hr
    refine p_X10_0 (x := y0) C hV hS q_1391 dX10_netOf_13 (fun H locs hV hS => ?_)
    refine lv_aload_n hx hb dX10_netOf_16 rfl (lv_at hl 0 rfl) ?_
    refine g_X10_0 C hV q_1391 dX10_netOf_17 ?_
    refine lv_if_le (tgt := 25) hx hb dX10_netOf_20 (by decide) (fun b_1 => ?_) (fun b_1 => ?_)
    · have hr := it b_1 hr
      refine lv_iload_n hx hb dX10_netOf_25 rfl (lv_at hl 2 rfl) ?_
      by_cases b_2 : x2 = 0
      · have hr := it b_2 hr
        refine lv_tableIn (off := 42) (tgt := 68) hx hb dX10_netOf_26 (by rw [b_2]; decide) (by rw [b_2]; decide) (by rw [b_2]; decide +kernel) (by decide) ?_
        refine lv_aload_n hx hb dX10_netOf_68 rfl (lv_at hl 0 rfl) ?_
        refine lv_iload_n hx hb dX10_netOf_69 rfl (lv_at hl 1 rfl) ?_
        refine lv_iconst (v := 0) hx hb dX10_netOf_70 (by decide) ?_
        obtain ⟨q3, e3, hr⟩ := ob hr
        refine cal_i (run_V (As := [.int x1, .int 0]) (rest := []) C hV hS (c_X10_of l G b0 (up V 208 0 y0) x1 0 q3 e3) (rcv hK hV (kd_lt z_208 (by decide)) (cel_20 z_208) rfl) q_1503 q_1505 q_98 q_151 q_1506 dk_X10_of (rm_ok (by decide) (by decide)) hl.1 rfl (Nat.le_of_ble_eq_true rfl) dX10_netOf_71 ⟨Nat.zero_le _, Nat.zero_le _⟩) hS (fun H locs hV hS => ?_)
        refine lv_aload_n hx hb dX10_netOf_74 rfl (lv_at hl 0 rfl) ?_
        refine lv_iload_n hx hb dX10_netOf_75 rfl (lv_at hl 1 rfl) ?_
        refine lv_iconst (v := 1) hx hb dX10_netOf_76 (by decide) ?_
        obtain ⟨q4, e4, hr⟩ := ob hr
        refine cal_i (run_V (As := [.int x1, .int 1]) (rest := [.int q3]) C hV hS (c_X10_of l G b0 (up V 208 0 y0) x1 1 q4 e4) (rcv hK hV (kd_lt z_208 (by decide)) (cel_20 z_208) rfl) q_1503 q_1505 q_98 q_151 q_1506 dk_X10_of (rm_ok (by decide) (by decide)) hl.1 rfl (Nat.le_of_ble_eq_true rfl) dX10_netOf_77 ⟨Nat.zero_le _, Nat.zero_le _⟩) hS (fun H locs hV hS => ?_)
        refine lv_ior hx hb dX10_netOf_80 ?_
        obtain ⟨q5, e5, hr⟩ := ob hr
        refine cal_i (run_S (As := [.int (q3 ||| q4)]) (rest := []) C hV hS (c_X10_bits l G b0 (up V 208 0 y0) (q3 ||| q4) q5 e5) q_1595 q_1596 q_151 q_1597 dk_X10_bits (rm_ok (by decide) (by decide)) hl.1 rfl (Nat.le_of_ble_eq_true rfl) dX10_netOf_81 ⟨Nat.zero_le _, Nat.zero_le _⟩) hS (fun H locs hV hS => ?_)
        rw [← Option.some.inj hr]
        exact fin_i C hV hS rfl dX10_netOf_84
      have hr := ie b_2 hr
      by_cases b_6 : x2 = 1
      · have hr := it b_6 hr
        refine lv_tableIn (off := 59) (tgt := 85) hx hb dX10_netOf_26 (by rw [b_6]; decide) (by rw [b_6]; decide) (by rw [b_6]; decide +kernel) (by decide) ?_
        refine lv_aload_n hx hb dX10_netOf_85 rfl (lv_at hl 0 rfl) ?_
        refine lv_iload_n hx hb dX10_netOf_86 rfl (lv_at hl 1 rfl) ?_
        obtain ⟨q7, e7, hr⟩ := ob hr
        refine cal_i (run_V (As := [.int x1]) (rest := []) C hV hS (c_X10_readable l G b0 (up V 208 0 y0) x1 q7 e7) (rcv hK hV (kd_lt z_208 (by decide)) (cel_20 z_208) rfl) q_1583 q_1585 q_112 q_151 q_1586 dk_X10_readable (rm_ok (by decide) (by decide)) hl.1 rfl (Nat.le_of_ble_eq_true rfl) dX10_netOf_87 ⟨Nat.zero_le _, Nat.zero_le _⟩) hS (fun H locs hV hS => ?_)
        rw [← Option.some.inj hr]
        exact fin_i C hV hS rfl dX10_netOf_90
      have hr := ie b_6 hr
      by_cases b_8 : x2 = 2
      · have hr := it b_8 hr
        refine lv_tableIn (off := 65) (tgt := 91) hx hb dX10_netOf_26 (by rw [b_8]; decide) (by rw [b_8]; decide) (by rw [b_8]; decide +kernel) (by decide) ?_
        refine lv_aload_n hx hb dX10_netOf_91 rfl (lv_at hl 0 rfl) ?_
        refine lv_iload_n hx hb dX10_netOf_92 rfl (lv_at hl 1 rfl) ?_
        obtain ⟨q9, e9, hr⟩ := ob hr
        refine cal_i (run_V (As := [.int x1]) (rest := []) C hV hS (c_X10_tornIn l G b0 (up V 208 0 y0) x1 q9 e9) (rcv hK hV (kd_lt z_208 (by decide)) (cel_20 z_208) rfl) q_1638 q_1640 q_119 q_151 q_1641 dk_X10_tornIn (rm_ok (by decide) (by decide)) hl.1 rfl (Nat.le_of_ble_eq_true rfl) dX10_netOf_93 ⟨Nat.zero_le _, Nat.zero_le _⟩) hS (fun H locs hV hS => ?_)
        rw [← Option.some.inj hr]
        exact fin_i C hV hS rfl dX10_netOf_96
      have hr := ie b_8 hr
      by_cases b_10 : x2 = 3
      · have hr := it b_10 hr
        refine lv_tableIn (off := 71) (tgt := 97) hx hb dX10_netOf_26 (by rw [b_10]; decide) (by rw [b_10]; decide) (by rw [b_10]; decide +kernel) (by decide) ?_
        refine lv_aload_n hx hb dX10_netOf_97 rfl (lv_at hl 0 rfl) ?_
        refine lv_iload_n hx hb dX10_netOf_98 rfl (lv_at hl 1 rfl) ?_
        refine lv_iconst (v := 4) hx hb dX10_netOf_99 (by decide) ?_
        obtain ⟨q11, e11, hr⟩ := ob hr
        refine cal_i (run_V (As := [.int x1, .int 4]) (rest := []) C hV hS (c_X10_of l G b0 (up V 208 0 y0) x1 4 q11 e11) (rcv hK hV (kd_lt z_208 (by decide)) (cel_20 z_208) rfl) q_1503 q_1505 q_98 q_151 q_1506 dk_X10_of (rm_ok (by decide) (by decide)) hl.1 rfl (Nat.le_of_ble_eq_true rfl) dX10_netOf_100 ⟨Nat.zero_le _, Nat.zero_le _⟩) hS (fun H locs hV hS => ?_)
        rw [← Option.some.inj hr]
        exact fin_i C hV hS rfl dX10_netOf_103
      have hr := ie b_10 hr
      by_cases b_12 : x2 = 4
      · have hr := it b_12 hr
        refine lv_tableIn (off := 78) (tgt := 104) hx hb dX10_netOf_26 (by rw [b_12]; decide) (by rw [b_12]; decide) (by rw [b_12]; decide +kernel) (by decide) ?_
        refine lv_aload_n hx hb dX10_netOf_104 rfl (lv_at hl 0 rfl) ?_
        refine lv_iload_n hx hb dX10_netOf_105 rfl (lv_at hl 1 rfl) ?_
        obtain ⟨q13, e13, hr⟩ := ob hr
        refine cal_i (run_V (As := [.int x1]) (rest := []) C hV hS (c_X10_underWater l G b0 (up V 208 0 y0) x1 q13 e13) (rcv hK hV (kd_lt z_208 (by decide)) (cel_20 z_208) rfl) q_1591 q_1593 q_114 q_151 q_1594 dk_X10_underWater (rm_ok (by decide) (by decide)) hl.1 rfl (Nat.le_of_ble_eq_true rfl) dX10_netOf_106 ⟨Nat.zero_le _, Nat.zero_le _⟩) hS (fun H locs hV hS => ?_)
        rw [← Option.some.inj hr]
        exact fin_i C hV hS rfl dX10_netOf_109
      have hr := ie b_12 hr
      by_cases b_14 : x2 = 5
      · have hr := it b_14 hr
        refine lv_tableIn (off := 84) (tgt := 110) hx hb dX10_netOf_26 (by rw [b_14]; decide) (by rw [b_14]; decide) (by rw [b_14]; decide +kernel) (by decide) ?_
        refine lv_aload_n hx hb dX10_netOf_110 rfl (lv_at hl 0 rfl) ?_
        refine lv_iload_n hx hb dX10_netOf_111 rfl (lv_at hl 1 rfl) ?_
        obtain ⟨q15, e15, hr⟩ := ob hr
        refine cal_i (run_V (As := [.int x1]) (rest := []) C hV hS (c_X10_greatest l G b0 (up V 208 0 y0) x1 q15 e15) (rcv hK hV (kd_lt z_208 (by decide)) (cel_20 z_208) rfl) q_1642 q_1644 q_120 q_151 q_1645 dk_X10_greatest (rm_ok (by decide) (by decide)) hl.1 rfl (Nat.le_of_ble_eq_true rfl) dX10_netOf_112 ⟨Nat.zero_le _, Nat.zero_le _⟩) hS (fun H locs hV hS => ?_)
        rw [← Option.some.inj hr]
        exact fin_i C hV hS rfl dX10_netOf_115
      have hr := ie b_14 hr
      by_cases b_16 : x2 = 6
      · have hr := it b_16 hr
        refine lv_tableIn (off := 90) (tgt := 116) hx hb dX10_netOf_26 (by rw [b_16]; decide) (by rw [b_16]; decide) (by rw [b_16]; decide +kernel) (by decide) ?_
        refine lv_aload_n hx hb dX10_netOf_116 rfl (lv_at hl 0 rfl) ?_
        refine lv_iload_n hx hb dX10_netOf_117 rfl (lv_at hl 1 rfl) ?_
        refine lv_iconst (v := 2) hx hb dX10_netOf_118 (by decide) ?_
        obtain ⟨q17, e17, hr⟩ := ob hr
        refine cal_i (run_V (As := [.int x1, .int 2]) (rest := []) C hV hS (c_X10_of l G b0 (up V 208 0 y0) x1 2 q17 e17) (rcv hK hV (kd_lt z_208 (by decide)) (cel_20 z_208) rfl) q_1503 q_1505 q_98 q_151 q_1506 dk_X10_of (rm_ok (by decide) (by decide)) hl.1 rfl (Nat.le_of_ble_eq_true rfl) dX10_netOf_119 ⟨Nat.zero_le _, Nat.zero_le _⟩) hS (fun H locs hV hS => ?_)
        obtain ⟨q18, e18, hr⟩ := ob hr
        refine cal_i (run_S (As := [.int q17]) (rest := []) C hV hS (c_X10_bits l G b0 (up V 208 0 y0) q17 q18 e18) q_1595 q_1596 q_151 q_1597 dk_X10_bits (rm_ok (by decide) (by decide)) hl.1 rfl (Nat.le_of_ble_eq_true rfl) dX10_netOf_122 ⟨Nat.zero_le _, Nat.zero_le _⟩) hS (fun H locs hV hS => ?_)
        refine lv_iconst (v := 2) hx hb dX10_netOf_125 (by decide) ?_
        refine lv_aload_n hx hb dX10_netOf_126 rfl (lv_at hl 0 rfl) ?_
        refine lv_iload_n hx hb dX10_netOf_127 rfl (lv_at hl 1 rfl) ?_
        refine lv_iconst (v := 3) hx hb dX10_netOf_128 (by decide) ?_
        obtain ⟨q19, e19, hr⟩ := ob hr
        refine cal_i (run_V (As := [.int x1, .int 3]) (rest := [.int 2, .int q18]) C hV hS (c_X10_of l G b0 (up V 208 0 y0) x1 3 q19 e19) (rcv hK hV (kd_lt z_208 (by decide)) (cel_20 z_208) rfl) q_1503 q_1505 q_98 q_151 q_1506 dk_X10_of (rm_ok (by decide) (by decide)) hl.1 rfl (Nat.le_of_ble_eq_true rfl) dX10_netOf_129 ⟨Nat.zero_le _, Nat.zero_le _⟩) hS (fun H locs hV hS => ?_)
        obtain ⟨q20, e20, hr⟩ := ob hr
        refine cal_i (run_S (As := [.int q19]) (rest := [.int 2, .int q18]) C hV hS (c_X10_bits l G b0 (up V 208 0 y0) q19 q20 e20) q_1595 q_1596 q_151 q_1597 dk_X10_bits (rm_ok (by decide) (by decide)) hl.1 rfl (Nat.le_of_ble_eq_true rfl) dX10_netOf_132 ⟨Nat.zero_le _, Nat.zero_le _⟩) hS (fun H locs hV hS => ?_)
        refine lv_imul hx hb dX10_netOf_135 ?_
        refine lv_iadd hx hb dX10_netOf_136 ?_
        rw [← Option.some.inj hr]
        exact fin_i C hV hS rfl dX10_netOf_137
      have hr := ie b_16 hr
      have n_2 := lv_neT (a := 0) b_2 (by decide)
      have n_6 := lv_neT (a := 1) b_6 (by decide)
      have n_8 := lv_neT (a := 2) b_8 (by decide)
      have n_10 := lv_neT (a := 3) b_10 (by decide)
      have n_12 := lv_neT (a := 4) b_12 (by decide)
      have n_14 := lv_neT (a := 5) b_14 (by decide)
      have n_16 := lv_neT (a := 6) b_16 (by decide)
      refine lv_tableOut (tgt := 138) hx hb dX10_netOf_26 (by omega) (by decide) ?_
      refine lv_aload_n hx hb dX10_netOf_138 rfl (lv_at hl 0 rfl) ?_
      refine lv_iconst (v := 2) hx hb dX10_netOf_139 (by decide) ?_
      obtain ⟨q21, e21, hr⟩ := ob hr
      refine cal_i (run_V (As := [.int 2]) (rest := []) C hV hS (c_X10_fails l G b0 (up V 208 0 y0) 2 q21 e21) (rcv hK hV (kd_lt z_208 (by decide)) (cel_20 z_208) rfl) q_1523 q_1525 q_103 q_151 q_1526 dk_X10_fails (rm_ok (by decide) (by decide)) hl.1 rfl (Nat.le_of_ble_eq_true rfl) dX10_netOf_140 ⟨Nat.zero_le _, Nat.zero_le _⟩) hS (fun H locs hV hS => ?_)
      rw [← Option.some.inj hr]
      exact fin_i C hV hS rfl dX10_netOf_143
    · have hr := ie b_1 hr
      refine lv_iconst (v := 0) hx hb dX10_netOf_23 (by decide) ?_
      rw [← Option.some.inj hr]
      exact fin_i C hV hS rfl dX10_netOf_24
  unfold f_X10_netOf at hr
  refine lv_aload_n hx hb dX10_netOf_0 rfl (lv_at hl 0 rfl) ?_
  refine lv_iload_n hx hb dX10_netOf_1 rfl (lv_at hl 1 rfl) ?_
  obtain ⟨q22, e22, hr⟩ := ob hr
  refine cal_i (run_S (As := [.int x1]) (rest := [.ref (b0 + 208)]) C hV hS (c_X10_isNet l G b0 V x1 q22 e22) q_1486 q_1487 q_151 q_1488 dk_X10_isNet (rm_ok (by decide) (by decide)) hl.1 rfl (Nat.le_of_ble_eq_true rfl) dX10_netOf_2 ⟨Nat.zero_le _, Nat.zero_le _⟩) hS (fun H locs hV hS => ?_)
  refine lv_if_eq (tgt := 12) hx hb dX10_netOf_5 (by decide) (fun b_23 => ?_) (fun b_23 => ?_)
  · have hr := it b_23 hr
    refine lv_iconst (v := 1) hx hb dX10_netOf_12 (by decide) ?_
    exact K_13 _ x1 x2 1 hr _ _ ls hV hS (lv_sub hl [0, 1, 2] rfl)
  · have hr := ie b_23 hr
    refine lv_iconst (v := 0) hx hb dX10_netOf_8 (by decide) ?_
    refine lv_goto (tgt := 13) hx hb dX10_netOf_9 (by decide) ?_
    exact K_13 _ x1 x2 0 hr _ _ ls hV hS (lv_sub hl [0, 1, 2] rfl)
set_option maxHeartbeats 4000000 in
set_option maxRecDepth 100000 in
theorem c_X10_chaptersOf (l : Launch) (G : LG) (b0 : Nat) (V : St) (x1 : Int32) (res : Int32 × St) (hr : f_X10_chaptersOf V x1 = some res) : Met l yX10_chaptersOf (wy yX10_chaptersOf cX10_chaptersOf 2 (some .int)) (rm 3) (va_Pc [.ref (b0 + 208), .int x1] (Iv G b0 V)) (QI G b0 res.1 res.2) 0 0 (Ab b0) := by
  refine mk_m (by decide +kernel) (Nat.le_of_ble_eq_true rfl) ?_
  intro p e s m below meth c C hV hS ls hl
  obtain ⟨args, hargs⟩ : ∃ z, z = ([.ref (b0 + 208), .int x1] : List Value).toArray := ⟨_, rfl⟩
  rw [← hargs] at C ⊢
  obtain ⟨hx, hb, hrt, hml, hown, hts, hlocks, hK, hSv⟩ := id C
  have hl : lv_has ls 2 [(0, .ref (b0 + 208)), (1, .int x1)] := hl
  unfold f_X10_chaptersOf at hr
  refine lv_aload_n hx hb dX10_chaptersOf_0 rfl (lv_at hl 0 rfl) ?_
  refine lv_iload_n hx hb dX10_chaptersOf_1 rfl (lv_at hl 1 rfl) ?_
  obtain ⟨q1, e1, hr⟩ := ob hr
  refine cal_v (run_V (As := [.int x1]) (rest := []) C hV hS (c_X10_looksAt l G b0 V x1 q1 e1) (rcv hK hV (kd_lt z_208 (by decide)) (cel_20 z_208) rfl) q_1538 q_1540 q_105 q_151 q_1541 dk_X10_looksAt (rm_ok (by decide) (by decide)) hl.1 rfl (Nat.le_of_ble_eq_true rfl) dX10_chaptersOf_2 ⟨Nat.zero_le _, Nat.zero_le _⟩) hS (fun H locs hV hS => ?_)
  refine lv_aload_n hx hb dX10_chaptersOf_5 rfl (lv_at hl 0 rfl) ?_
  refine lv_aload_n hx hb dX10_chaptersOf_6 rfl (lv_at hl 0 rfl) ?_
  refine g_X10_19 C hV q_1410 dX10_chaptersOf_7 ?_
  obtain ⟨q2, e2, hr⟩ := ob hr
  refine cal_i (run_V (As := [.int (q1 208 19)]) (rest := []) C hV hS (c_X10_partsOf l G b0 q1 (q1 208 19) q2 e2) (rcv hK hV (kd_lt z_208 (by decide)) (cel_20 z_208) rfl) q_1544 q_1546 q_106 q_151 q_1547 dk_X10_partsOf (rm_ok (by decide) (by decide)) hl.1 rfl (Nat.le_of_ble_eq_true rfl) dX10_chaptersOf_10 ⟨Nat.zero_le _, Nat.zero_le _⟩) hS (fun H locs hV hS => ?_)
  rw [← Option.some.inj hr]
  exact fin_i C hV hS rfl dX10_chaptersOf_13
set_option maxHeartbeats 4000000 in
set_option maxRecDepth 100000 in
theorem c_X10_chapters (l : Launch) (G : LG) (b0 : Nat) (V : St) (x1 : Int32) (res : Int32 × St) (hr : f_X10_chapters V x1 = some res) : Met l yX10_chapters (wy yX10_chapters cX10_chapters 2 (some .int)) (rm 4) (va_Pc [.ref (b0 + 208), .int x1] (Iv G b0 V)) (QI G b0 res.1 res.2) 0 0 (Ab b0) := by
  refine mk_m (by decide +kernel) (Nat.le_of_ble_eq_true rfl) ?_
  intro p e s m below meth c C hV hS ls hl
  obtain ⟨args, hargs⟩ : ∃ z, z = ([.ref (b0 + 208), .int x1] : List Value).toArray := ⟨_, rfl⟩
  rw [← hargs] at C ⊢
  obtain ⟨hx, hb, hrt, hml, hown, hts, hlocks, hK, hSv⟩ := id C
  have hl : lv_has ls 2 [(0, .ref (b0 + 208)), (1, .int x1)] := hl
  have K_13 : ∀ (V : St) (x1 : Int32) (y0 : Int32), f_X10_chapters_b13 V x1 y0 = some res → ∀ (H : Heap) (locs : List Loc) (ls : Array Slot), Hd G b0 V H → va_S (Ab b0) s.heap H locs → lv_has ls 2 [(0, .ref (b0 + 208)), (1, .int x1)] → W p l e (rm 4) s m args below meth c H locs 0 0 (MQ below (QI G b0 res.1 res.2) args s 0 0 (Ab b0)) (F0 m 13 ls [.int y0, .ref (b0 + 208)]) := by
    intro V x1 y0 hr H locs ls hV hS hl
    unfold f_X10_chapters_b13 at hr
    refine p_X10_0 (x := y0) C hV hS q_1391 dX10_chapters_13 (fun H locs hV hS => ?_)
    refine lv_aload_n hx hb dX10_chapters_16 rfl (lv_at hl 0 rfl) ?_
    refine g_X10_0 C hV q_1391 dX10_chapters_17 ?_
    refine lv_if_le (tgt := 27) hx hb dX10_chapters_20 (by decide) (fun b_1 => ?_) (fun b_1 => ?_)
    · have hr := it b_1 hr
      refine lv_aload_n hx hb dX10_chapters_27 rfl (lv_at hl 0 rfl) ?_
      refine lv_iload_n hx hb dX10_chapters_28 rfl (lv_at hl 1 rfl) ?_
      obtain ⟨q2, e2, hr⟩ := ob hr
      refine cal_i (run_V (As := [.int x1]) (rest := []) C hV hS (c_X10_chaptersOf l G b0 (up V 208 0 y0) x1 q2 e2) (rcv hK hV (kd_lt z_208 (by decide)) (cel_20 z_208) rfl) q_1650 q_1652 q_121 q_151 q_1653 dk_X10_chaptersOf (rm_ok (by decide) (by decide)) hl.1 rfl (Nat.le_of_ble_eq_true rfl) dX10_chapters_29 ⟨Nat.zero_le _, Nat.zero_le _⟩) hS (fun H locs hV hS => ?_)
      rw [← Option.some.inj hr]
      exact fin_i C hV hS rfl dX10_chapters_32
    · have hr := ie b_1 hr
      refine lv_iconst (v := 0) hx hb dX10_chapters_23 (by decide) ?_
      refine lv_goto (tgt := 32) hx hb dX10_chapters_24 (by decide) ?_
      rw [← Option.some.inj hr]
      exact fin_i C hV hS rfl dX10_chapters_32
  unfold f_X10_chapters at hr
  refine lv_aload_n hx hb dX10_chapters_0 rfl (lv_at hl 0 rfl) ?_
  refine lv_iload_n hx hb dX10_chapters_1 rfl (lv_at hl 1 rfl) ?_
  obtain ⟨q3, e3, hr⟩ := ob hr
  refine cal_i (run_S (As := [.int x1]) (rest := [.ref (b0 + 208)]) C hV hS (c_X10_isNet l G b0 V x1 q3 e3) q_1486 q_1487 q_151 q_1488 dk_X10_isNet (rm_ok (by decide) (by decide)) hl.1 rfl (Nat.le_of_ble_eq_true rfl) dX10_chapters_2 ⟨Nat.zero_le _, Nat.zero_le _⟩) hS (fun H locs hV hS => ?_)
  refine lv_if_eq (tgt := 12) hx hb dX10_chapters_5 (by decide) (fun b_4 => ?_) (fun b_4 => ?_)
  · have hr := it b_4 hr
    refine lv_iconst (v := 1) hx hb dX10_chapters_12 (by decide) ?_
    exact K_13 _ x1 1 hr _ _ ls hV hS (lv_sub hl [0, 1] rfl)
  · have hr := ie b_4 hr
    refine lv_iconst (v := 0) hx hb dX10_chapters_8 (by decide) ?_
    refine lv_goto (tgt := 13) hx hb dX10_chapters_9 (by decide) ?_
    exact K_13 _ x1 0 hr _ _ ls hV hS (lv_sub hl [0, 1] rfl)
set_option maxHeartbeats 4000000 in
set_option maxRecDepth 100000 in
theorem c_X10_chaptersAgain (l : Launch) (G : LG) (b0 : Nat) (V : St) (x1 : Int32) (res : Int32 × St) (hr : f_X10_chaptersAgain V x1 = some res) : Met l yX10_chaptersAgain (wy yX10_chaptersAgain cX10_chaptersAgain 2 (some .int)) (rm 5) (va_Pc [.ref (b0 + 208), .int x1] (Iv G b0 V)) (QI G b0 res.1 res.2) 0 0 (Ab b0) := by
  refine mk_m (by decide +kernel) (Nat.le_of_ble_eq_true rfl) ?_
  intro p e s m below meth c C hV hS ls hl
  obtain ⟨args, hargs⟩ : ∃ z, z = ([.ref (b0 + 208), .int x1] : List Value).toArray := ⟨_, rfl⟩
  rw [← hargs] at C ⊢
  obtain ⟨hx, hb, hrt, hml, hown, hts, hlocks, hK, hSv⟩ := id C
  have hl : lv_has ls 2 [(0, .ref (b0 + 208)), (1, .int x1)] := hl
  unfold f_X10_chaptersAgain at hr
  refine lv_aload_n hx hb dX10_chaptersAgain_0 rfl (lv_at hl 0 rfl) ?_
  refine lv_iload_n hx hb dX10_chaptersAgain_1 rfl (lv_at hl 1 rfl) ?_
  obtain ⟨q1, e1, hr⟩ := ob hr
  refine cal_i (run_V (As := [.int x1]) (rest := []) C hV hS (c_X10_chapters l G b0 V x1 q1 e1) (rcv hK hV (kd_lt z_208 (by decide)) (cel_20 z_208) rfl) q_1658 q_1647 q_1648 q_151 q_1649 dk_X10_chapters (rm_ok (by decide) (by decide)) hl.1 rfl (Nat.le_of_ble_eq_true rfl) dX10_chaptersAgain_2 ⟨Nat.zero_le _, Nat.zero_le _⟩) hS (fun H locs hV hS => ?_)
  rw [← Option.some.inj hr]
  exact fin_i C hV hS rfl dX10_chaptersAgain_5
set_option maxHeartbeats 4000000 in
set_option maxRecDepth 100000 in
theorem c_X10_chapterOf (l : Launch) (G : LG) (b0 : Nat) (V : St) (x1 : Int32) (x2 : Int32) (x3 : Int32) (res : Int32 × St) (hr : f_X10_chapterOf V x1 x2 x3 = some res) : Met l yX10_chapterOf (wy yX10_chapterOf cX10_chapterOf 5 (some .int)) (rm 3) (va_Pc [.ref (b0 + 208), .int x1, .int x2, .int x3] (Iv G b0 V)) (QI G b0 res.1 res.2) 0 0 (Ab b0) := by
  refine mk_m (by decide +kernel) (Nat.le_of_ble_eq_true rfl) ?_
  intro p e s m below meth c C hV hS ls hl
  obtain ⟨args, hargs⟩ : ∃ z, z = ([.ref (b0 + 208), .int x1, .int x2, .int x3] : List Value).toArray := ⟨_, rfl⟩
  rw [← hargs] at C ⊢
  obtain ⟨hx, hb, hrt, hml, hown, hts, hlocks, hK, hSv⟩ := id C
  have hl : lv_has ls 5 [(0, .ref (b0 + 208)), (1, .int x1), (2, .int x2), (3, .int x3)] := hl
  have K_46 : ∀ (V : St) (x1 : Int32) (x2 : Int32) (x3 : Int32) (y0 : Int32), f_X10_chapterOf_b46 V x1 x2 x3 y0 = some res → ∀ (H : Heap) (locs : List Loc) (ls : Array Slot), Hd G b0 V H → va_S (Ab b0) s.heap H locs → lv_has ls 5 [(0, .ref (b0 + 208)), (1, .int x1), (2, .int x2), (3, .int x3)] → W p l e (rm 3) s m args below meth c H locs 0 0 (MQ below (QI G b0 res.1 res.2) args s 0 0 (Ab b0)) (F0 m 46 ls [.int y0, .ref (b0 + 208)]) := by
    intro V x1 x2 x3 y0 hr H locs ls hV hS hl
    unfold f_X10_chapterOf_b46 at hr
    refine p_X10_0 (x := y0) C hV hS q_1391 dX10_chapterOf_46 (fun H locs hV hS => ?_)
    refine lv_aload_n hx hb dX10_chapterOf_49 rfl (lv_at hl 0 rfl) ?_
    refine g_X10_0 C hV q_1391 dX10_chapterOf_50 ?_
    refine lv_if_le (tgt := 58) hx hb dX10_chapterOf_53 (by decide) (fun b_1 => ?_) (fun b_1 => ?_)
    · have hr := it b_1 hr
      refine lv_aload_n hx hb dX10_chapterOf_58 rfl (lv_at hl 0 rfl) ?_
      refine lv_iload_n hx hb dX10_chapterOf_59 rfl (lv_at hl 1 rfl) ?_
      obtain ⟨q2, e2, hr⟩ := ob hr
      refine cal_v (run_V (As := [.int x1]) (rest := []) C hV hS (c_X10_looksAt l G b0 (up V 208 0 y0) x1 q2 e2) (rcv hK hV (kd_lt z_208 (by decide)) (cel_20 z_208) rfl) q_1538 q_1540 q_105 q_151 q_1541 dk_X10_looksAt (rm_ok (by decide) (by decide)) hl.1 rfl (Nat.le_of_ble_eq_true rfl) dX10_chapterOf_60 ⟨Nat.zero_le _, Nat.zero_le _⟩) hS (fun H locs hV hS => ?_)
      refine lv_aload_n hx hb dX10_chapterOf_63 rfl (lv_at hl 0 rfl) ?_
      refine lv_iload_n hx hb dX10_chapterOf_64 rfl (lv_at hl 2 rfl) ?_
      refine lv_aload_n hx hb dX10_chapterOf_65 rfl (lv_at hl 0 rfl) ?_
      refine g_X10_19 C hV q_1410 dX10_chapterOf_66 ?_
      obtain ⟨q3, e3, hr⟩ := ob hr
      refine cal_i (run_V (As := [.int x2, .int (q2 208 19)]) (rest := []) C hV hS (c_X10_together l G b0 q2 x2 (q2 208 19) q3 e3) (rcv hK hV (kd_lt z_208 (by decide)) (cel_20 z_208) rfl) q_1551 q_1553 q_107 q_151 q_1554 dk_X10_together (rm_ok (by decide) (by decide)) hl.1 rfl (Nat.le_of_ble_eq_true rfl) dX10_chapterOf_69 ⟨Nat.zero_le _, Nat.zero_le _⟩) hS (fun H locs hV hS => ?_)
      refine lv_istore (lv' := [(4, .int q3), (0, .ref (b0 + 208)), (1, .int x1), (2, .int x2), (3, .int x3)]) hx hb dX10_chapterOf_72 hl (by decide) rfl (fun ls hl => ?_)
      refine lv_iload_n hx hb dX10_chapterOf_74 rfl (lv_at hl 4 rfl) ?_
      by_cases b_4 : x3 = 0
      · have hr := it b_4 hr
        refine lv_tableIn (off := 25) (tgt := 100) hx hb dX10_chapterOf_75 (by rw [b_4]; decide) (by rw [b_4]; decide) (by rw [b_4]; decide +kernel) (by decide) ?_
        refine lv_iload hx hb dX10_chapterOf_100 (lv_at hl 0 rfl) ?_
        obtain ⟨q5, e5, hr⟩ := ob hr
        refine cal_i (run_S (As := [.int q3]) (rest := []) C hV hS (c_X10_lowest l G b0 q2 q3 q5 e5) q_1548 q_1549 q_151 q_1550 dk_X10_lowest (rm_ok (by decide) (by decide)) hl.1 rfl (Nat.le_of_ble_eq_true rfl) dX10_chapterOf_102 ⟨Nat.zero_le _, Nat.zero_le _⟩) hS (fun H locs hV hS => ?_)
        rw [← Option.some.inj hr]
        exact fin_i C hV hS rfl dX10_chapterOf_105
      have hr := ie b_4 hr
      by_cases b_6 : x3 = 1
      · have hr := it b_6 hr
        refine lv_tableIn (off := 31) (tgt := 106) hx hb dX10_chapterOf_75 (by rw [b_6]; decide) (by rw [b_6]; decide) (by rw [b_6]; decide +kernel) (by decide) ?_
        refine lv_iload hx hb dX10_chapterOf_106 (lv_at hl 0 rfl) ?_
        obtain ⟨q7, e7, hr⟩ := ob hr
        refine cal_i (run_S (As := [.int q3]) (rest := []) C hV hS (c_X10_bits l G b0 q2 q3 q7 e7) q_1595 q_1596 q_151 q_1597 dk_X10_bits (rm_ok (by decide) (by decide)) hl.1 rfl (Nat.le_of_ble_eq_true rfl) dX10_chapterOf_108 ⟨Nat.zero_le _, Nat.zero_le _⟩) hS (fun H locs hV hS => ?_)
        rw [← Option.some.inj hr]
        exact fin_i C hV hS rfl dX10_chapterOf_111
      have hr := ie b_6 hr
      by_cases b_8 : x3 = 2
      · have hr := it b_8 hr
        refine lv_tableIn (off := 37) (tgt := 112) hx hb dX10_chapterOf_75 (by rw [b_8]; decide) (by rw [b_8]; decide) (by rw [b_8]; decide +kernel) (by decide) ?_
        refine lv_iload hx hb dX10_chapterOf_112 (lv_at hl 0 rfl) ?_
        refine lv_aload_n hx hb dX10_chapterOf_114 rfl (lv_at hl 1 rfl) ?_
        refine lv_iload_n hx hb dX10_chapterOf_115 rfl (lv_at hl 2 rfl) ?_
        obtain ⟨q9, e9, hr⟩ := ob hr
        refine cal_i (run_V (As := [.int x1]) (rest := [.int q3]) C hV hS (c_X10_dry l G b0 q2 x1 q9 e9) (rcv hK hV (kd_lt z_208 (by decide)) (cel_20 z_208) rfl) q_1587 q_1589 q_113 q_151 q_1590 dk_X10_dry (rm_ok (by decide) (by decide)) hl.1 rfl (Nat.le_of_ble_eq_true rfl) dX10_chapterOf_116 ⟨Nat.zero_le _, Nat.zero_le _⟩) hS (fun H locs hV hS => ?_)
        refine lv_iand hx hb dX10_chapterOf_119 ?_
        obtain ⟨q10, e10, hr⟩ := ob hr
        refine cal_i (run_S (As := [.int (q3 &&& q9)]) (rest := []) C hV hS (c_X10_bits l G b0 q2 (q3 &&& q9) q10 e10) q_1595 q_1596 q_151 q_1597 dk_X10_bits (rm_ok (by decide) (by decide)) hl.1 rfl (Nat.le_of_ble_eq_true rfl) dX10_chapterOf_120 ⟨Nat.zero_le _, Nat.zero_le _⟩) hS (fun H locs hV hS => ?_)
        rw [← Option.some.inj hr]
        exact fin_i C hV hS rfl dX10_chapterOf_123
      have hr := ie b_8 hr
      have n_4 := lv_neT (a := 0) b_4 (by decide)
      have n_6 := lv_neT (a := 1) b_6 (by decide)
      have n_8 := lv_neT (a := 2) b_8 (by decide)
      refine lv_tableOut (tgt := 124) hx hb dX10_chapterOf_75 (by omega) (by decide) ?_
      refine lv_iload hx hb dX10_chapterOf_124 (lv_at hl 0 rfl) ?_
      refine lv_iload hx hb dX10_chapterOf_126 (lv_at hl 0 rfl) ?_
      refine lv_iconst (v := 1) hx hb dX10_chapterOf_128 (by decide) ?_
      refine lv_ishr hx hb dX10_chapterOf_129 ?_
      refine lv_iand hx hb dX10_chapterOf_130 ?_
      refine lv_aload_n hx hb dX10_chapterOf_131 rfl (lv_at hl 1 rfl) ?_
      refine g_X10_20 C hV q_1411 dX10_chapterOf_132 ?_
      refine lv_iand hx hb dX10_chapterOf_135 ?_
      obtain ⟨q11, e11, hr⟩ := ob hr
      refine cal_i (run_S (As := [.int ((q3 &&& (q3 >>> (1 &&& 31))) &&& (q2 208 20))]) (rest := []) C hV hS (c_X10_bits l G b0 q2 ((q3 &&& (q3 >>> (1 &&& 31))) &&& (q2 208 20)) q11 e11) q_1595 q_1596 q_151 q_1597 dk_X10_bits (rm_ok (by decide) (by decide)) hl.1 rfl (Nat.le_of_ble_eq_true rfl) dX10_chapterOf_136 ⟨Nat.zero_le _, Nat.zero_le _⟩) hS (fun H locs hV hS => ?_)
      refine lv_iload hx hb dX10_chapterOf_139 (lv_at hl 0 rfl) ?_
      refine lv_iload hx hb dX10_chapterOf_141 (lv_at hl 0 rfl) ?_
      refine lv_bipush (v := 6) hx hb dX10_chapterOf_143 (by decide) ?_
      refine lv_ishr hx hb dX10_chapterOf_145 ?_
      refine lv_iand hx hb dX10_chapterOf_146 ?_
      refine lv_aload_n hx hb dX10_chapterOf_147 rfl (lv_at hl 1 rfl) ?_
      refine g_X10_21 C hV q_1412 dX10_chapterOf_148 ?_
      refine lv_iand hx hb dX10_chapterOf_151 ?_
      obtain ⟨q12, e12, hr⟩ := ob hr
      refine cal_i (run_S (As := [.int ((q3 &&& (q3 >>> (6 &&& 31))) &&& (q2 208 21))]) (rest := [.int q11]) C hV hS (c_X10_bits l G b0 q2 ((q3 &&& (q3 >>> (6 &&& 31))) &&& (q2 208 21)) q12 e12) q_1595 q_1596 q_151 q_1597 dk_X10_bits (rm_ok (by decide) (by decide)) hl.1 rfl (Nat.le_of_ble_eq_true rfl) dX10_chapterOf_152 ⟨Nat.zero_le _, Nat.zero_le _⟩) hS (fun H locs hV hS => ?_)
      refine lv_iadd hx hb dX10_chapterOf_155 ?_
      rw [← Option.some.inj hr]
      exact fin_i C hV hS rfl dX10_chapterOf_156
    · have hr := ie b_1 hr
      refine lv_iconst (v := 0) hx hb dX10_chapterOf_56 (by decide) ?_
      rw [← Option.some.inj hr]
      exact fin_i C hV hS rfl dX10_chapterOf_57
  have K_15 : ∀ (V : St) (x1 : Int32) (x2 : Int32) (x3 : Int32), f_X10_chapterOf_b15 V x1 x2 x3 = some res → ∀ (H : Heap) (locs : List Loc) (ls : Array Slot), Hd G b0 V H → va_S (Ab b0) s.heap H locs → lv_has ls 5 [(0, .ref (b0 + 208)), (1, .int x1), (2, .int x2), (3, .int x3)] → W p l e (rm 3) s m args below meth c H locs 0 0 (MQ below (QI G b0 res.1 res.2) args s 0 0 (Ab b0)) (F0 m 15 ls [.ref (b0 + 208)]) := by
    intro V x1 x2 x3 hr H locs ls hV hS hl
    unfold f_X10_chapterOf_b15 at hr
    refine lv_iconst (v := 1) hx hb dX10_chapterOf_15 (by decide) ?_
    refine lv_goto (tgt := 46) hx hb dX10_chapterOf_16 (by decide) ?_
    exact K_46 _ x1 x2 x3 1 hr _ _ ls hV hS (lv_sub hl [0, 1, 2, 3] rfl)
  unfold f_X10_chapterOf at hr
  refine lv_aload_n hx hb dX10_chapterOf_0 rfl (lv_at hl 0 rfl) ?_
  refine lv_iload_n hx hb dX10_chapterOf_1 rfl (lv_at hl 1 rfl) ?_
  obtain ⟨q13, e13, hr⟩ := ob hr
  refine cal_i (run_S (As := [.int x1]) (rest := [.ref (b0 + 208)]) C hV hS (c_X10_isNet l G b0 V x1 q13 e13) q_1486 q_1487 q_151 q_1488 dk_X10_isNet (rm_ok (by decide) (by decide)) hl.1 rfl (Nat.le_of_ble_eq_true rfl) dX10_chapterOf_2 ⟨Nat.zero_le _, Nat.zero_le _⟩) hS (fun H locs hV hS => ?_)
  refine lv_if_eq (tgt := 15) hx hb dX10_chapterOf_5 (by decide) (fun b_14 => ?_) (fun b_14 => ?_)
  · have hr := it b_14 hr
    exact K_15 _ x1 x2 x3 hr _ _ ls hV hS (lv_sub hl [0, 1, 2, 3] rfl)
  · have hr := ie b_14 hr
    refine lv_iload_n hx hb dX10_chapterOf_8 rfl (lv_at hl 2 rfl) ?_
    obtain ⟨q15, e15, hr⟩ := ob hr
    refine cal_i (run_S (As := [.int x2]) (rest := [.ref (b0 + 208)]) C hV hS (c_X10_isPlace l G b0 V x2 q15 e15) q_1496 q_1497 q_151 q_1498 dk_X10_isPlace (rm_ok (by decide) (by decide)) hl.1 rfl (Nat.le_of_ble_eq_true rfl) dX10_chapterOf_9 ⟨Nat.zero_le _, Nat.zero_le _⟩) hS (fun H locs hV hS => ?_)
    refine lv_if_ne (tgt := 19) hx hb dX10_chapterOf_12 (by decide) (fun b_16 => ?_) (fun b_16 => ?_)
    · have hr := ie b_16 hr
      refine lv_iload_n hx hb dX10_chapterOf_19 rfl (lv_at hl 3 rfl) ?_
      refine lv_iconst (v := 0) hx hb dX10_chapterOf_20 (by decide) ?_
      refine lv_iconst (v := 3) hx hb dX10_chapterOf_21 (by decide) ?_
      obtain ⟨q17, e17, hr⟩ := ob hr
      refine cal_i (run_S (As := [.int x3, .int 0, .int 3]) (rest := [.ref (b0 + 208)]) C hV hS (c_X10_in l G b0 V x3 0 3 q17 e17) q_1489 q_1490 q_151 q_1491 dk_X10_in (rm_ok (by decide) (by decide)) hl.1 rfl (Nat.le_of_ble_eq_true rfl) dX10_chapterOf_22 ⟨Nat.zero_le _, Nat.zero_le _⟩) hS (fun H locs hV hS => ?_)
      refine lv_if_ne (tgt := 32) hx hb dX10_chapterOf_25 (by decide) (fun b_18 => ?_) (fun b_18 => ?_)
      · have hr := ie b_18 hr
        refine lv_aload_n hx hb dX10_chapterOf_32 rfl (lv_at hl 0 rfl) ?_
        refine lv_iload_n hx hb dX10_chapterOf_33 rfl (lv_at hl 1 rfl) ?_
        refine lv_iload_n hx hb dX10_chapterOf_34 rfl (lv_at hl 2 rfl) ?_
        obtain ⟨q19, e19, hr⟩ := ob hr
        refine cal_i (run_V (As := [.int x1, .int x2]) (rest := [.ref (b0 + 208)]) C hV hS (c_X10_kind l G b0 V x1 x2 q19 e19) (rcv hK hV (kd_lt z_208 (by decide)) (cel_20 z_208) rfl) q_1499 q_1501 q_97 q_151 q_1502 dk_X10_kind (rm_ok (by decide) (by decide)) hl.1 rfl (Nat.le_of_ble_eq_true rfl) dX10_chapterOf_35 ⟨Nat.zero_le _, Nat.zero_le _⟩) hS (fun H locs hV hS => ?_)
        refine lv_if_ne (tgt := 45) hx hb dX10_chapterOf_38 (by decide) (fun b_20 => ?_) (fun b_20 => ?_)
        · have hr := ie b_20 hr
          refine lv_iconst (v := 0) hx hb dX10_chapterOf_45 (by decide) ?_
          exact K_46 _ x1 x2 x3 0 hr _ _ ls hV hS (lv_sub hl [0, 1, 2, 3] rfl)
        · have hr := it b_20 hr
          refine lv_iconst (v := 3) hx hb dX10_chapterOf_41 (by decide) ?_
          refine lv_goto (tgt := 46) hx hb dX10_chapterOf_42 (by decide) ?_
          exact K_46 _ x1 x2 x3 3 hr _ _ ls hV hS (lv_sub hl [0, 1, 2, 3] rfl)
      · have hr := it b_18 hr
        refine lv_iconst (v := 2) hx hb dX10_chapterOf_28 (by decide) ?_
        refine lv_goto (tgt := 46) hx hb dX10_chapterOf_29 (by decide) ?_
        exact K_46 _ x1 x2 x3 2 hr _ _ ls hV hS (lv_sub hl [0, 1, 2, 3] rfl)
    · have hr := it b_16 hr
      exact K_15 _ x1 x2 x3 hr _ _ ls hV hS (lv_sub hl [0, 1, 2, 3] rfl)
set_option maxHeartbeats 4000000 in
set_option maxRecDepth 100000 in
theorem c_X10_isNote (l : Launch) (G : LG) (b0 : Nat) (V : St) (x1 : Int32) (res : Int32) (hr : f_X10_isNote V x1 = some res) : Met l yX10_isNote (wy yX10_isNote cX10_isNote 2 (some .boolean)) (rm 1) (va_Pc [.ref (b0 + 208), .int x1] (Iv G b0 V)) (QI G b0 res V) 0 0 (Ab b0) := by
  refine mk_m (by decide +kernel) (Nat.le_of_ble_eq_true rfl) ?_
  intro p e s m below meth c C hV hS ls hl
  obtain ⟨args, hargs⟩ : ∃ z, z = ([.ref (b0 + 208), .int x1] : List Value).toArray := ⟨_, rfl⟩
  rw [← hargs] at C ⊢
  obtain ⟨hx, hb, hrt, hml, hown, hts, hlocks, hK, hSv⟩ := id C
  have hl : lv_has ls 2 [(0, .ref (b0 + 208)), (1, .int x1)] := hl
  unfold f_X10_isNote at hr
  refine lv_iload_n hx hb dX10_isNote_0 rfl (lv_at hl 1 rfl) ?_
  refine lv_iconst (v := 0) hx hb dX10_isNote_1 (by decide) ?_
  refine lv_aload_n hx hb dX10_isNote_2 rfl (lv_at hl 0 rfl) ?_
  refine g_X10_1 C hV q_1392 dX10_isNote_3 ?_
  refine lv_iconst (v := 2) hx hb dX10_isNote_6 (by decide) ?_
  refine a_21 (k := 209) (i := 2) (j := 2) C hV z_209 (by decide) dX10_isNote_7 ?_
  refine lv_iconst (v := 1) hx hb dX10_isNote_8 (by decide) ?_
  refine lv_isub hx hb dX10_isNote_9 ?_
  obtain ⟨q1, e1, hr⟩ := ob hr
  refine cal_i (run_S (As := [.int x1, .int 0, .int ((V 209 2) - 1)]) (rest := []) C hV hS (c_X10_in l G b0 V x1 0 ((V 209 2) - 1) q1 e1) q_1489 q_1490 q_151 q_1491 dk_X10_in (rm_ok (by decide) (by decide)) hl.1 rfl (Nat.le_of_ble_eq_true rfl) dX10_isNote_10 ⟨Nat.zero_le _, Nat.zero_le _⟩) hS (fun H locs hV hS => ?_)
  obtain ⟨q2, e2, hr⟩ := ob hr
  exact fin_z C hV hS (nr_in e2).2 (Option.some.inj hr) dX10_isNote_13
set_option maxHeartbeats 4000000 in
set_option maxRecDepth 100000 in
theorem c_X10_hasKinds (l : Launch) (G : LG) (b0 : Nat) (V : St) (x1 : Int32) (res : Int32) (hr : f_X10_hasKinds V x1 = some res) : Met l yX10_hasKinds (wy yX10_hasKinds cX10_hasKinds 4 (some .boolean)) (rm 1) (va_Pc [.ref (b0 + 208), .int x1] (Iv G b0 V)) (QI G b0 res V) 0 0 (Ab b0) := by
  refine mk_m (by decide +kernel) (Nat.le_of_ble_eq_true rfl) ?_
  intro p e s m below meth c C hV hS ls hl
  obtain ⟨args, hargs⟩ : ∃ z, z = ([.ref (b0 + 208), .int x1] : List Value).toArray := ⟨_, rfl⟩
  rw [← hargs] at C ⊢
  obtain ⟨hx, hb, hrt, hml, hown, hts, hlocks, hK, hSv⟩ := id C
  have hl : lv_has ls 4 [(0, .ref (b0 + 208)), (1, .int x1)] := hl
  unfold f_X10_hasKinds at hr
  refine lv_aload_n hx hb dX10_hasKinds_0 rfl (lv_at hl 0 rfl) ?_
  refine lv_iload_n hx hb dX10_hasKinds_1 rfl (lv_at hl 1 rfl) ?_
  refine lv_iconst (v := 0) hx hb dX10_hasKinds_2 (by decide) ?_
  obtain ⟨q1, e1, hr⟩ := ob hr
  refine cal_i (run_V (As := [.int x1, .int 0]) (rest := []) C hV hS (c_X10_ofNote l G b0 V x1 0 q1 e1) (rcv hK hV (kd_lt z_208 (by decide)) (cel_20 z_208) rfl) q_1614 q_1616 q_117 q_151 q_1617 dk_X10_ofNote (rm_ok (by decide) (by decide)) hl.1 rfl (Nat.le_of_ble_eq_true rfl) dX10_hasKinds_3 ⟨Nat.zero_le _, Nat.zero_le _⟩) hS (fun H locs hV hS => ?_)
  refine lv_istore_n (lv' := [(2, .int q1), (0, .ref (b0 + 208)), (1, .int x1)]) hx hb dX10_hasKinds_6 rfl hl (by decide) rfl (fun ls hl => ?_)
  refine lv_aload_n hx hb dX10_hasKinds_7 rfl (lv_at hl 1 rfl) ?_
  refine lv_iload_n hx hb dX10_hasKinds_8 rfl (lv_at hl 2 rfl) ?_
  refine lv_iconst (v := 1) hx hb dX10_hasKinds_9 (by decide) ?_
  obtain ⟨q2, e2, hr⟩ := ob hr
  refine cal_i (run_V (As := [.int x1, .int 1]) (rest := []) C hV hS (c_X10_ofNote l G b0 V x1 1 q2 e2) (rcv hK hV (kd_lt z_208 (by decide)) (cel_20 z_208) rfl) q_1614 q_1616 q_117 q_151 q_1617 dk_X10_ofNote (rm_ok (by decide) (by decide)) hl.1 rfl (Nat.le_of_ble_eq_true rfl) dX10_hasKinds_10 ⟨Nat.zero_le _, Nat.zero_le _⟩) hS (fun H locs hV hS => ?_)
  refine lv_istore_n (lv' := [(3, .int q2), (2, .int q1), (0, .ref (b0 + 208)), (1, .int x1)]) hx hb dX10_hasKinds_13 rfl hl (by decide) rfl (fun ls hl => ?_)
  refine lv_aload_n hx hb dX10_hasKinds_14 rfl (lv_at hl 2 rfl) ?_
  refine lv_iload_n hx hb dX10_hasKinds_15 rfl (lv_at hl 1 rfl) ?_
  refine lv_iconst (v := 0) hx hb dX10_hasKinds_16 (by decide) ?_
  obtain ⟨q3, e3, hr⟩ := ob hr
  refine cal_i (run_V (As := [.int q1, .int 0]) (rest := []) C hV hS (c_X10_of l G b0 V q1 0 q3 e3) (rcv hK hV (kd_lt z_208 (by decide)) (cel_20 z_208) rfl) q_1503 q_1505 q_98 q_151 q_1506 dk_X10_of (rm_ok (by decide) (by decide)) hl.1 rfl (Nat.le_of_ble_eq_true rfl) dX10_hasKinds_17 ⟨Nat.zero_le _, Nat.zero_le _⟩) hS (fun H locs hV hS => ?_)
  refine lv_iload_n hx hb dX10_hasKinds_20 rfl (lv_at hl 0 rfl) ?_
  refine lv_iand hx hb dX10_hasKinds_21 ?_
  refine lv_aload_n hx hb dX10_hasKinds_22 rfl (lv_at hl 2 rfl) ?_
  refine lv_iload_n hx hb dX10_hasKinds_23 rfl (lv_at hl 3 rfl) ?_
  refine lv_iconst (v := 2) hx hb dX10_hasKinds_24 (by decide) ?_
  obtain ⟨q4, e4, hr⟩ := ob hr
  refine cal_i (run_V (As := [.int x1, .int 2]) (rest := [.int (q3 &&& q2)]) C hV hS (c_X10_ofNote l G b0 V x1 2 q4 e4) (rcv hK hV (kd_lt z_208 (by decide)) (cel_20 z_208) rfl) q_1614 q_1616 q_117 q_151 q_1617 dk_X10_ofNote (rm_ok (by decide) (by decide)) hl.1 rfl (Nat.le_of_ble_eq_true rfl) dX10_hasKinds_25 ⟨Nat.zero_le _, Nat.zero_le _⟩) hS (fun H locs hV hS => ?_)
  refine lv_icmp_ne (tgt := 52) hx hb dX10_hasKinds_28 (by decide) (fun b_5 => ?_) (fun b_5 => ?_)
  · have hr := ie b_5 hr
    refine lv_iconst (v := 0) hx hb dX10_hasKinds_52 (by decide) ?_
    exact fin_z C hV hS (by decide) (Option.some.inj hr) dX10_hasKinds_53
  · have hr := it b_5 hr
    refine lv_aload_n hx hb dX10_hasKinds_31 rfl (lv_at hl 2 rfl) ?_
    refine lv_iload_n hx hb dX10_hasKinds_32 rfl (lv_at hl 1 rfl) ?_
    refine lv_iconst (v := 1) hx hb dX10_hasKinds_33 (by decide) ?_
    obtain ⟨q6, e6, hr⟩ := ob hr
    refine cal_i (run_V (As := [.int q1, .int 1]) (rest := []) C hV hS (c_X10_of l G b0 V q1 1 q6 e6) (rcv hK hV (kd_lt z_208 (by decide)) (cel_20 z_208) rfl) q_1503 q_1505 q_98 q_151 q_1506 dk_X10_of (rm_ok (by decide) (by decide)) hl.1 rfl (Nat.le_of_ble_eq_true rfl) dX10_hasKinds_34 ⟨Nat.zero_le _, Nat.zero_le _⟩) hS (fun H locs hV hS => ?_)
    refine lv_iload_n hx hb dX10_hasKinds_37 rfl (lv_at hl 0 rfl) ?_
    refine lv_iand hx hb dX10_hasKinds_38 ?_
    refine lv_aload_n hx hb dX10_hasKinds_39 rfl (lv_at hl 2 rfl) ?_
    refine lv_iload_n hx hb dX10_hasKinds_40 rfl (lv_at hl 3 rfl) ?_
    refine lv_iconst (v := 3) hx hb dX10_hasKinds_41 (by decide) ?_
    obtain ⟨q7, e7, hr⟩ := ob hr
    refine cal_i (run_V (As := [.int x1, .int 3]) (rest := [.int (q6 &&& q2)]) C hV hS (c_X10_ofNote l G b0 V x1 3 q7 e7) (rcv hK hV (kd_lt z_208 (by decide)) (cel_20 z_208) rfl) q_1614 q_1616 q_117 q_151 q_1617 dk_X10_ofNote (rm_ok (by decide) (by decide)) hl.1 rfl (Nat.le_of_ble_eq_true rfl) dX10_hasKinds_42 ⟨Nat.zero_le _, Nat.zero_le _⟩) hS (fun H locs hV hS => ?_)
    refine lv_icmp_ne (tgt := 52) hx hb dX10_hasKinds_45 (by decide) (fun b_8 => ?_) (fun b_8 => ?_)
    · have hr := ie b_8 hr
      refine lv_iconst (v := 0) hx hb dX10_hasKinds_52 (by decide) ?_
      exact fin_z C hV hS (by decide) (Option.some.inj hr) dX10_hasKinds_53
    · have hr := it b_8 hr
      refine lv_iconst (v := 1) hx hb dX10_hasKinds_48 (by decide) ?_
      refine lv_goto (tgt := 53) hx hb dX10_hasKinds_49 (by decide) ?_
      exact fin_z C hV hS (by decide) (Option.some.inj hr) dX10_hasKinds_53
