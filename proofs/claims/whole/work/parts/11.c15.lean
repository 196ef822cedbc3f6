set_option maxHeartbeats 4000000 in
set_option maxRecDepth 100000 in
theorem c_X10_readsSo (l : Launch) (G : LG) (b0 : Nat) (V : St) (x1 : Int32) (res : Int32 × St) (hr : f_X10_readsSo V x1 = some res) : Met l yX10_readsSo (wy yX10_readsSo cX10_readsSo 2 (some .boolean)) (rm 2) (va_Pc [.ref (b0 + 208), .int x1] (Iv G b0 V)) (QI G b0 res.1 res.2) 0 0 (Ab b0) := by
  refine mk_m (by decide +kernel) (Nat.le_of_ble_eq_true rfl) ?_
  intro p e s m below meth c C hV hS ls hl
  obtain ⟨args, hargs⟩ : ∃ z, z = ([.ref (b0 + 208), .int x1] : List Value).toArray := ⟨_, rfl⟩
  rw [← hargs] at C ⊢
  obtain ⟨hx, hb, hrt, hml, hown, hts, hlocks, hK, hSv⟩ := id C
  have hl : lv_has ls 2 [(0, .ref (b0 + 208)), (1, .int x1)] := hl
  unfold f_X10_readsSo at hr
  refine lv_aload_n hx hb dX10_readsSo_0 rfl (lv_at hl 0 rfl) ?_
  refine lv_iload_n hx hb dX10_readsSo_1 rfl (lv_at hl 1 rfl) ?_
  obtain ⟨q1, e1, hr⟩ := ob hr
  refine cal_i (run_V (As := [.int x1]) (rest := []) C hV hS (c_X10_hasKinds l G b0 V x1 q1 e1) (rcv hK hV (kd_lt z_208 (by decide)) (cel_20 z_208) rfl) q_1675 q_1677 q_124 q_151 q_1678 dk_X10_hasKinds (rm_ok (by decide) (by decide)) hl.1 rfl (Nat.le_of_ble_eq_true rfl) dX10_readsSo_2 ⟨Nat.zero_le _, Nat.zero_le _⟩) hS (fun H locs hV hS => ?_)
  refine lv_if_ne (tgt := 10) hx hb dX10_readsSo_5 (by decide) (fun b_2 => ?_) (fun b_2 => ?_)
  · have hr := ie b_2 hr
    refine lv_aload_n hx hb dX10_readsSo_10 rfl (lv_at hl 0 rfl) ?_
    refine lv_aload_n hx hb dX10_readsSo_11 rfl (lv_at hl 0 rfl) ?_
    refine lv_iload_n hx hb dX10_readsSo_12 rfl (lv_at hl 1 rfl) ?_
    refine lv_iconst (v := 0) hx hb dX10_readsSo_13 (by decide) ?_
    obtain ⟨q3, e3, hr⟩ := ob hr
    refine cal_i (run_V (As := [.int x1, .int 0]) (rest := [.ref (b0 + 208)]) C hV hS (c_X10_ofNote l G b0 V x1 0 q3 e3) (rcv hK hV (kd_lt z_208 (by decide)) (cel_20 z_208) rfl) q_1614 q_1616 q_117 q_151 q_1617 dk_X10_ofNote (rm_ok (by decide) (by decide)) hl.1 rfl (Nat.le_of_ble_eq_true rfl) dX10_readsSo_14 ⟨Nat.zero_le _, Nat.zero_le _⟩) hS (fun H locs hV hS => ?_)
    obtain ⟨q4, e4, hr⟩ := ob hr
    refine cal_v (run_V (As := [.int q3]) (rest := []) C hV hS (c_X10_looksAt l G b0 V q3 q4 e4) (rcv hK hV (kd_lt z_208 (by decide)) (cel_20 z_208) rfl) q_1538 q_1540 q_105 q_151 q_1541 dk_X10_looksAt (rm_ok (by decide) (by decide)) hl.1 rfl (Nat.le_of_ble_eq_true rfl) dX10_readsSo_17 ⟨Nat.zero_le _, Nat.zero_le _⟩) hS (fun H locs hV hS => ?_)
    refine lv_aload_n hx hb dX10_readsSo_20 rfl (lv_at hl 0 rfl) ?_
    refine lv_aload_n hx hb dX10_readsSo_21 rfl (lv_at hl 0 rfl) ?_
    refine lv_iload_n hx hb dX10_readsSo_22 rfl (lv_at hl 1 rfl) ?_
    refine lv_iconst (v := 1) hx hb dX10_readsSo_23 (by decide) ?_
    obtain ⟨q5, e5, hr⟩ := ob hr
    refine cal_i (run_V (As := [.int x1, .int 1]) (rest := [.ref (b0 + 208)]) C hV hS (c_X10_ofNote l G b0 q4 x1 1 q5 e5) (rcv hK hV (kd_lt z_208 (by decide)) (cel_20 z_208) rfl) q_1614 q_1616 q_117 q_151 q_1617 dk_X10_ofNote (rm_ok (by decide) (by decide)) hl.1 rfl (Nat.le_of_ble_eq_true rfl) dX10_readsSo_24 ⟨Nat.zero_le _, Nat.zero_le _⟩) hS (fun H locs hV hS => ?_)
    obtain ⟨q6, e6, hr⟩ := ob hr
    refine cal_i (run_S (As := [.int q5]) (rest := [.ref (b0 + 208)]) C hV hS (c_X10_lowest l G b0 q4 q5 q6 e6) q_1548 q_1549 q_151 q_1550 dk_X10_lowest (rm_ok (by decide) (by decide)) hl.1 rfl (Nat.le_of_ble_eq_true rfl) dX10_readsSo_27 ⟨Nat.zero_le _, Nat.zero_le _⟩) hS (fun H locs hV hS => ?_)
    refine lv_aload_n hx hb dX10_readsSo_30 rfl (lv_at hl 0 rfl) ?_
    refine g_X10_19 C hV q_1410 dX10_readsSo_31 ?_
    obtain ⟨q7, e7, hr⟩ := ob hr
    refine cal_i (run_V (As := [.int q6, .int (q4 208 19)]) (rest := []) C hV hS (c_X10_together l G b0 q4 q6 (q4 208 19) q7 e7) (rcv hK hV (kd_lt z_208 (by decide)) (cel_20 z_208) rfl) q_1551 q_1553 q_107 q_151 q_1554 dk_X10_together (rm_ok (by decide) (by decide)) hl.1 rfl (Nat.le_of_ble_eq_true rfl) dX10_readsSo_34 ⟨Nat.zero_le _, Nat.zero_le _⟩) hS (fun H locs hV hS => ?_)
    refine lv_aload_n hx hb dX10_readsSo_37 rfl (lv_at hl 0 rfl) ?_
    refine lv_iload_n hx hb dX10_readsSo_38 rfl (lv_at hl 1 rfl) ?_
    refine lv_iconst (v := 1) hx hb dX10_readsSo_39 (by decide) ?_
    obtain ⟨q8, e8, hr⟩ := ob hr
    refine cal_i (run_V (As := [.int x1, .int 1]) (rest := [.int q7]) C hV hS (c_X10_ofNote l G b0 q4 x1 1 q8 e8) (rcv hK hV (kd_lt z_208 (by decide)) (cel_20 z_208) rfl) q_1614 q_1616 q_117 q_151 q_1617 dk_X10_ofNote (rm_ok (by decide) (by decide)) hl.1 rfl (Nat.le_of_ble_eq_true rfl) dX10_readsSo_40 ⟨Nat.zero_le _, Nat.zero_le _⟩) hS (fun H locs hV hS => ?_)
    refine lv_icmp_ne (tgt := 50) hx hb dX10_readsSo_43 (by decide) (fun b_9 => ?_) (fun b_9 => ?_)
    · have hr := ie b_9 hr
      refine lv_iconst (v := 0) hx hb dX10_readsSo_50 (by decide) ?_
      rw [← Option.some.inj hr]
      exact fin_z C hV hS (by decide) rfl dX10_readsSo_51
    · have hr := it b_9 hr
      refine lv_iconst (v := 1) hx hb dX10_readsSo_46 (by decide) ?_
      refine lv_goto (tgt := 51) hx hb dX10_readsSo_47 (by decide) ?_
      rw [← Option.some.inj hr]
      exact fin_z C hV hS (by decide) rfl dX10_readsSo_51
  · have hr := it b_2 hr
    refine lv_iconst (v := 0) hx hb dX10_readsSo_8 (by decide) ?_
    rw [← Option.some.inj hr]
    exact fin_z C hV hS (by decide) rfl dX10_readsSo_9
set_option maxHeartbeats 4000000 in
set_option maxRecDepth 100000 in
theorem c_X10_noteOf (l : Launch) (G : LG) (b0 : Nat) (V : St) (x1 : Int32) (x2 : Int32) (res : Int32 × St) (hr : f_X10_noteOf V x1 x2 = some res) : Met l yX10_noteOf (wy yX10_noteOf cX10_noteOf 3 (some .int)) (rm 3) (va_Pc [.ref (b0 + 208), .int x1, .int x2] (Iv G b0 V)) (QI G b0 res.1 res.2) 0 0 (Ab b0) := by
  refine mk_m (by decide +kernel) (Nat.le_of_ble_eq_true rfl) ?_
  intro p e s m below meth c C hV hS ls hl
  obtain ⟨args, hargs⟩ : ∃ z, z = ([.ref (b0 + 208), .int x1, .int x2] : List Value).toArray := ⟨_, rfl⟩
  rw [← hargs] at C ⊢
  obtain ⟨hx, hb, hrt, hml, hown, hts, hlocks, hK, hSv⟩ := id C
  have hl : lv_has ls 3 [(0, .ref (b0 + 208)), (1, .int x1), (2, .int x2)] := hl
  have K_14 : ∀ (V : St) (x1 : Int32) (x2 : Int32) (y0 : Int32), f_X10_noteOf_b14 V x1 x2 y0 = some res → ∀ (H : Heap) (locs : List Loc) (ls : Array Slot), Hd G b0 V H → va_S (Ab b0) s.heap H locs → lv_has ls 3 [(0, .ref (b0 + 208)), (1, .int x1), (2, .int x2)] → W p l e (rm 3) s m args below meth c H locs 0 0 (MQ below (QI G b0 res.1 res.2) args s 0 0 (Ab b0)) (F0 m 14 ls [.int y0, .ref (b0 + 208)]) := by
    intro V x1 x2 y0 hr H locs ls hV hS hl
    unfold f_X10_noteOf_b14 at hr
    refine p_X10_0 (x := y0) C hV hS q_1391 dX10_noteOf_14 (fun H locs hV hS => ?_)
    refine lv_aload_n hx hb dX10_noteOf_17 rfl (lv_at hl 0 rfl) ?_
    refine g_X10_0 C hV q_1391 dX10_noteOf_18 ?_
    refine lv_if_le (tgt := 26) hx hb dX10_noteOf_21 (by decide) (fun b_1 => ?_) (fun b_1 => ?_)
    · have hr := it b_1 hr
      refine lv_iload_n hx hb dX10_noteOf_26 rfl (lv_at hl 2 rfl) ?_
      by_cases b_2 : x2 = 0
      · have hr := it b_2 hr
        refine lv_tableIn (off := 29) (tgt := 56) hx hb dX10_noteOf_27 (by rw [b_2]; decide) (by rw [b_2]; decide) (by rw [b_2]; decide +kernel) (by decide) ?_
        refine lv_aload_n hx hb dX10_noteOf_56 rfl (lv_at hl 0 rfl) ?_
        refine lv_iload_n hx hb dX10_noteOf_57 rfl (lv_at hl 1 rfl) ?_
        refine lv_iconst (v := 0) hx hb dX10_noteOf_58 (by decide) ?_
        obtain ⟨q3, e3, hr⟩ := ob hr
        refine cal_i (run_V (As := [.int x1, .int 0]) (rest := []) C hV hS (c_X10_ofNote l G b0 (up V 208 0 y0) x1 0 q3 e3) (rcv hK hV (kd_lt z_208 (by decide)) (cel_20 z_208) rfl) q_1614 q_1616 q_117 q_151 q_1617 dk_X10_ofNote (rm_ok (by decide) (by decide)) hl.1 rfl (Nat.le_of_ble_eq_true rfl) dX10_noteOf_59 ⟨Nat.zero_le _, Nat.zero_le _⟩) hS (fun H locs hV hS => ?_)
        rw [← Option.some.inj hr]
        exact fin_i C hV hS rfl dX10_noteOf_62
      have hr := ie b_2 hr
      by_cases b_4 : x2 = 1
      · have hr := it b_4 hr
        refine lv_tableIn (off := 36) (tgt := 63) hx hb dX10_noteOf_27 (by rw [b_4]; decide) (by rw [b_4]; decide) (by rw [b_4]; decide +kernel) (by decide) ?_
        refine lv_aload_n hx hb dX10_noteOf_63 rfl (lv_at hl 0 rfl) ?_
        refine lv_iload_n hx hb dX10_noteOf_64 rfl (lv_at hl 1 rfl) ?_
        refine lv_iconst (v := 1) hx hb dX10_noteOf_65 (by decide) ?_
        obtain ⟨q5, e5, hr⟩ := ob hr
        refine cal_i (run_V (As := [.int x1, .int 1]) (rest := []) C hV hS (c_X10_ofNote l G b0 (up V 208 0 y0) x1 1 q5 e5) (rcv hK hV (kd_lt z_208 (by decide)) (cel_20 z_208) rfl) q_1614 q_1616 q_117 q_151 q_1617 dk_X10_ofNote (rm_ok (by decide) (by decide)) hl.1 rfl (Nat.le_of_ble_eq_true rfl) dX10_noteOf_66 ⟨Nat.zero_le _, Nat.zero_le _⟩) hS (fun H locs hV hS => ?_)
        obtain ⟨q6, e6, hr⟩ := ob hr
        refine cal_i (run_S (As := [.int q5]) (rest := []) C hV hS (c_X10_lowest l G b0 (up V 208 0 y0) q5 q6 e6) q_1548 q_1549 q_151 q_1550 dk_X10_lowest (rm_ok (by decide) (by decide)) hl.1 rfl (Nat.le_of_ble_eq_true rfl) dX10_noteOf_69 ⟨Nat.zero_le _, Nat.zero_le _⟩) hS (fun H locs hV hS => ?_)
        rw [← Option.some.inj hr]
        exact fin_i C hV hS rfl dX10_noteOf_72
      have hr := ie b_4 hr
      by_cases b_7 : x2 = 2
      · have hr := it b_7 hr
        refine lv_tableIn (off := 46) (tgt := 73) hx hb dX10_noteOf_27 (by rw [b_7]; decide) (by rw [b_7]; decide) (by rw [b_7]; decide +kernel) (by decide) ?_
        refine lv_aload_n hx hb dX10_noteOf_73 rfl (lv_at hl 0 rfl) ?_
        refine lv_iload_n hx hb dX10_noteOf_74 rfl (lv_at hl 1 rfl) ?_
        refine lv_iconst (v := 1) hx hb dX10_noteOf_75 (by decide) ?_
        obtain ⟨q8, e8, hr⟩ := ob hr
        refine cal_i (run_V (As := [.int x1, .int 1]) (rest := []) C hV hS (c_X10_ofNote l G b0 (up V 208 0 y0) x1 1 q8 e8) (rcv hK hV (kd_lt z_208 (by decide)) (cel_20 z_208) rfl) q_1614 q_1616 q_117 q_151 q_1617 dk_X10_ofNote (rm_ok (by decide) (by decide)) hl.1 rfl (Nat.le_of_ble_eq_true rfl) dX10_noteOf_76 ⟨Nat.zero_le _, Nat.zero_le _⟩) hS (fun H locs hV hS => ?_)
        obtain ⟨q9, e9, hr⟩ := ob hr
        refine cal_i (run_S (As := [.int q8]) (rest := []) C hV hS (c_X10_bits l G b0 (up V 208 0 y0) q8 q9 e9) q_1595 q_1596 q_151 q_1597 dk_X10_bits (rm_ok (by decide) (by decide)) hl.1 rfl (Nat.le_of_ble_eq_true rfl) dX10_noteOf_79 ⟨Nat.zero_le _, Nat.zero_le _⟩) hS (fun H locs hV hS => ?_)
        rw [← Option.some.inj hr]
        exact fin_i C hV hS rfl dX10_noteOf_82
      have hr := ie b_7 hr
      by_cases b_10 : x2 = 3
      · have hr := it b_10 hr
        refine lv_tableIn (off := 56) (tgt := 83) hx hb dX10_noteOf_27 (by rw [b_10]; decide) (by rw [b_10]; decide) (by rw [b_10]; decide +kernel) (by decide) ?_
        refine lv_aload_n hx hb dX10_noteOf_83 rfl (lv_at hl 0 rfl) ?_
        refine lv_iload_n hx hb dX10_noteOf_84 rfl (lv_at hl 1 rfl) ?_
        obtain ⟨q11, e11, hr⟩ := ob hr
        refine cal_i (run_V (As := [.int x1]) (rest := []) C hV hS (c_X10_readsSo l G b0 (up V 208 0 y0) x1 q11 e11) (rcv hK hV (kd_lt z_208 (by decide)) (cel_20 z_208) rfl) q_1671 q_1673 q_123 q_151 q_1674 dk_X10_readsSo (rm_ok (by decide) (by decide)) hl.1 rfl (Nat.le_of_ble_eq_true rfl) dX10_noteOf_85 ⟨Nat.zero_le _, Nat.zero_le _⟩) hS (fun H locs hV hS => ?_)
        refine lv_if_eq (tgt := 95) hx hb dX10_noteOf_88 (by decide) (fun b_12 => ?_) (fun b_12 => ?_)
        · have hr := it b_12 hr
          refine lv_iconst (v := 0) hx hb dX10_noteOf_95 (by decide) ?_
          rw [← Option.some.inj hr]
          exact fin_i C hV hS rfl dX10_noteOf_96
        · have hr := ie b_12 hr
          refine lv_iconst (v := 1) hx hb dX10_noteOf_91 (by decide) ?_
          refine lv_goto (tgt := 96) hx hb dX10_noteOf_92 (by decide) ?_
          rw [← Option.some.inj hr]
          exact fin_i C hV hS rfl dX10_noteOf_96
      have hr := ie b_10 hr
      have n_2 := lv_neT (a := 0) b_2 (by decide)
      have n_4 := lv_neT (a := 1) b_4 (by decide)
      have n_7 := lv_neT (a := 2) b_7 (by decide)
      have n_10 := lv_neT (a := 3) b_10 (by decide)
      refine lv_tableOut (tgt := 97) hx hb dX10_noteOf_27 (by omega) (by decide) ?_
      refine lv_aload_n hx hb dX10_noteOf_97 rfl (lv_at hl 0 rfl) ?_
      refine lv_iconst (v := 2) hx hb dX10_noteOf_98 (by decide) ?_
      obtain ⟨q13, e13, hr⟩ := ob hr
      refine cal_i (run_V (As := [.int 2]) (rest := []) C hV hS (c_X10_fails l G b0 (up V 208 0 y0) 2 q13 e13) (rcv hK hV (kd_lt z_208 (by decide)) (cel_20 z_208) rfl) q_1523 q_1525 q_103 q_151 q_1526 dk_X10_fails (rm_ok (by decide) (by decide)) hl.1 rfl (Nat.le_of_ble_eq_true rfl) dX10_noteOf_99 ⟨Nat.zero_le _, Nat.zero_le _⟩) hS (fun H locs hV hS => ?_)
      rw [← Option.some.inj hr]
      exact fin_i C hV hS rfl dX10_noteOf_102
    · have hr := ie b_1 hr
      refine lv_iconst (v := 0) hx hb dX10_noteOf_24 (by decide) ?_
      rw [← Option.some.inj hr]
      exact fin_i C hV hS rfl dX10_noteOf_25
  unfold f_X10_noteOf at hr
  refine lv_aload_n hx hb dX10_noteOf_0 rfl (lv_at hl 0 rfl) ?_
  refine lv_aload_n hx hb dX10_noteOf_1 rfl (lv_at hl 0 rfl) ?_
  refine lv_iload_n hx hb dX10_noteOf_2 rfl (lv_at hl 1 rfl) ?_
  obtain ⟨q14, e14, hr⟩ := ob hr
  refine cal_i (run_V (As := [.int x1]) (rest := [.ref (b0 + 208)]) C hV hS (c_X10_isNote l G b0 V x1 q14 e14) (rcv hK hV (kd_lt z_208 (by decide)) (cel_20 z_208) rfl) q_1667 q_1669 q_122 q_151 q_1670 dk_X10_isNote (rm_ok (by decide) (by decide)) hl.1 rfl (Nat.le_of_ble_eq_true rfl) dX10_noteOf_3 ⟨Nat.zero_le _, Nat.zero_le _⟩) hS (fun H locs hV hS => ?_)
  refine lv_if_eq (tgt := 13) hx hb dX10_noteOf_6 (by decide) (fun b_15 => ?_) (fun b_15 => ?_)
  · have hr := it b_15 hr
    refine lv_iconst (v := 1) hx hb dX10_noteOf_13 (by decide) ?_
    exact K_14 _ x1 x2 1 hr _ _ ls hV hS (lv_sub hl [0, 1, 2] rfl)
  · have hr := ie b_15 hr
    refine lv_iconst (v := 0) hx hb dX10_noteOf_9 (by decide) ?_
    refine lv_goto (tgt := 14) hx hb dX10_noteOf_10 (by decide) ?_
    exact K_14 _ x1 x2 0 hr _ _ ls hV hS (lv_sub hl [0, 1, 2] rfl)
set_option maxHeartbeats 4000000 in
set_option maxRecDepth 100000 in
theorem c_X10_little (l : Launch) (G : LG) (b0 : Nat) (V : St) (x1 : Int32) (res : Int32 × St) (hr : f_X10_little V x1 = some res) : Met l yX10_little (wy yX10_little cX10_little 5 (some .int)) (rm 3) (va_Pc [.ref (b0 + 208), .int x1] (Iv G b0 V)) (QI G b0 res.1 res.2) 0 0 (Ab b0) := by
  refine mk_m (by decide +kernel) (Nat.le_of_ble_eq_true rfl) ?_
  intro p e s m below meth c C hV hS ls hl
  obtain ⟨args, hargs⟩ : ∃ z, z = ([.ref (b0 + 208), .int x1] : List Value).toArray := ⟨_, rfl⟩
  rw [← hargs] at C ⊢
  obtain ⟨hx, hb, hrt, hml, hown, hts, hlocks, hK, hSv⟩ := id C
  have hl : lv_has ls 5 [(0, .ref (b0 + 208)), (1, .int x1)] := hl
  unfold f_X10_little at hr
  refine lv_aload_n hx hb dX10_little_0 rfl (lv_at hl 0 rfl) ?_
  refine lv_iload_n hx hb dX10_little_1 rfl (lv_at hl 1 rfl) ?_
  obtain ⟨q1, e1, hr⟩ := ob hr
  refine cal_i (run_V (As := [.int x1]) (rest := []) C hV hS (c_X10_hasKinds l G b0 V x1 q1 e1) (rcv hK hV (kd_lt z_208 (by decide)) (cel_20 z_208) rfl) q_1675 q_1677 q_124 q_151 q_1678 dk_X10_hasKinds (rm_ok (by decide) (by decide)) hl.1 rfl (Nat.le_of_ble_eq_true rfl) dX10_little_2 ⟨Nat.zero_le _, Nat.zero_le _⟩) hS (fun H locs hV hS => ?_)
  refine lv_if_ne (tgt := 10) hx hb dX10_little_5 (by decide) (fun b_2 => ?_) (fun b_2 => ?_)
  · have hr := ie b_2 hr
    refine lv_aload_n hx hb dX10_little_10 rfl (lv_at hl 0 rfl) ?_
    refine lv_iload_n hx hb dX10_little_11 rfl (lv_at hl 1 rfl) ?_
    refine lv_iconst (v := 1) hx hb dX10_little_12 (by decide) ?_
    obtain ⟨q3, e3, hr⟩ := ob hr
    refine cal_i (run_V (As := [.int x1, .int 1]) (rest := []) C hV hS (c_X10_ofNote l G b0 V x1 1 q3 e3) (rcv hK hV (kd_lt z_208 (by decide)) (cel_20 z_208) rfl) q_1614 q_1616 q_117 q_151 q_1617 dk_X10_ofNote (rm_ok (by decide) (by decide)) hl.1 rfl (Nat.le_of_ble_eq_true rfl) dX10_little_13 ⟨Nat.zero_le _, Nat.zero_le _⟩) hS (fun H locs hV hS => ?_)
    refine lv_istore_n (lv' := [(2, .int q3), (0, .ref (b0 + 208)), (1, .int x1)]) hx hb dX10_little_16 rfl hl (by decide) rfl (fun ls hl => ?_)
    refine lv_aload_n hx hb dX10_little_17 rfl (lv_at hl 1 rfl) ?_
    refine lv_aload_n hx hb dX10_little_18 rfl (lv_at hl 1 rfl) ?_
    refine lv_iload_n hx hb dX10_little_19 rfl (lv_at hl 2 rfl) ?_
    refine lv_iconst (v := 0) hx hb dX10_little_20 (by decide) ?_
    obtain ⟨q4, e4, hr⟩ := ob hr
    refine cal_i (run_V (As := [.int x1, .int 0]) (rest := [.ref (b0 + 208)]) C hV hS (c_X10_ofNote l G b0 V x1 0 q4 e4) (rcv hK hV (kd_lt z_208 (by decide)) (cel_20 z_208) rfl) q_1614 q_1616 q_117 q_151 q_1617 dk_X10_ofNote (rm_ok (by decide) (by decide)) hl.1 rfl (Nat.le_of_ble_eq_true rfl) dX10_little_21 ⟨Nat.zero_le _, Nat.zero_le _⟩) hS (fun H locs hV hS => ?_)
    obtain ⟨q5, e5, hr⟩ := ob hr
    refine cal_v (run_V (As := [.int q4]) (rest := []) C hV hS (c_X10_looksAt l G b0 V q4 q5 e5) (rcv hK hV (kd_lt z_208 (by decide)) (cel_20 z_208) rfl) q_1538 q_1540 q_105 q_151 q_1541 dk_X10_looksAt (rm_ok (by decide) (by decide)) hl.1 rfl (Nat.le_of_ble_eq_true rfl) dX10_little_24 ⟨Nat.zero_le _, Nat.zero_le _⟩) hS (fun H locs hV hS => ?_)
    refine lv_aload_n hx hb dX10_little_27 rfl (lv_at hl 1 rfl) ?_
    refine lv_iload_n hx hb dX10_little_28 rfl (lv_at hl 0 rfl) ?_
    obtain ⟨q6, e6, hr⟩ := ob hr
    refine cal_i (run_V (As := [.int q3]) (rest := []) C hV hS (c_X10_spread l G b0 q5 q3 q6 e6) (rcv hK hV (kd_lt z_208 (by decide)) (cel_20 z_208) rfl) q_1555 q_1557 q_108 q_151 q_1558 dk_X10_spread (rm_ok (by decide) (by decide)) hl.1 rfl (Nat.le_of_ble_eq_true rfl) dX10_little_29 ⟨Nat.zero_le _, Nat.zero_le _⟩) hS (fun H locs hV hS => ?_)
    refine lv_aload_n hx hb dX10_little_32 rfl (lv_at hl 1 rfl) ?_
    refine g_X10_19 C hV q_1410 dX10_little_33 ?_
    refine lv_iand hx hb dX10_little_36 ?_
    refine lv_iload_n hx hb dX10_little_37 rfl (lv_at hl 0 rfl) ?_
    refine lv_iconst (v := (-1)) hx hb dX10_little_38 (by decide) ?_
    refine lv_ixor hx hb dX10_little_39 ?_
    refine lv_iand hx hb dX10_little_40 ?_
    refine lv_if_eq (tgt := 46) hx hb dX10_little_41 (by decide) (fun b_7 => ?_) (fun b_7 => ?_)
    · have hr := it b_7 hr
      refine lv_aload_n hx hb dX10_little_46 rfl (lv_at hl 1 rfl) ?_
      refine lv_iload_n hx hb dX10_little_47 rfl (lv_at hl 0 rfl) ?_
      obtain ⟨q8, e8, hr⟩ := ob hr
      refine cal_i (run_V (As := [.int q3]) (rest := []) C hV hS (c_X10_partsOf l G b0 q5 q3 q8 e8) (rcv hK hV (kd_lt z_208 (by decide)) (cel_20 z_208) rfl) q_1544 q_1546 q_106 q_151 q_1547 dk_X10_partsOf (rm_ok (by decide) (by decide)) hl.1 rfl (Nat.le_of_ble_eq_true rfl) dX10_little_48 ⟨Nat.zero_le _, Nat.zero_le _⟩) hS (fun H locs hV hS => ?_)
      refine lv_istore_n (lv' := [(3, .int q8), (2, .int q3), (0, .ref (b0 + 208)), (1, .int x1)]) hx hb dX10_little_51 rfl hl (by decide) rfl (fun ls hl => ?_)
      refine lv_aload_n hx hb dX10_little_52 rfl (lv_at hl 2 rfl) ?_
      refine lv_ldc (v := 8255455) hx hb hown (hts _ q_1542) dX10_little_53 ?_
      refine p_X10_20 (x := 8255455) C hV hS q_1411 dX10_little_55 (fun H locs hV hS => ?_)
      refine lv_aload_n hx hb dX10_little_58 rfl (lv_at hl 2 rfl) ?_
      refine lv_iload_n hx hb dX10_little_59 rfl (lv_at hl 1 rfl) ?_
      obtain ⟨q9, e9, hr⟩ := ob hr
      refine cal_i (run_V (As := [.int q3]) (rest := []) C hV hS (c_X10_partsOf l G b0 (up q5 208 20 8255455) q3 q9 e9) (rcv hK hV (kd_lt z_208 (by decide)) (cel_20 z_208) rfl) q_1544 q_1546 q_106 q_151 q_1547 dk_X10_partsOf (rm_ok (by decide) (by decide)) hl.1 rfl (Nat.le_of_ble_eq_true rfl) dX10_little_60 ⟨Nat.zero_le _, Nat.zero_le _⟩) hS (fun H locs hV hS => ?_)
      refine lv_istore (lv' := [(4, .int q9), (3, .int q8), (2, .int q3), (0, .ref (b0 + 208)), (1, .int x1)]) hx hb dX10_little_63 hl (by decide) rfl (fun ls hl => ?_)
      refine lv_iload_n hx hb dX10_little_65 rfl (lv_at hl 1 rfl) ?_
      refine lv_iload hx hb dX10_little_66 (lv_at hl 0 rfl) ?_
      refine lv_isub hx hb dX10_little_68 ?_
      refine lv_iconst (v := 2) hx hb dX10_little_69 (by decide) ?_
      refine lv_iload hx hb dX10_little_70 (lv_at hl 0 rfl) ?_
      refine lv_iconst (v := 1) hx hb dX10_little_72 (by decide) ?_
      refine lv_isub hx hb dX10_little_73 ?_
      refine lv_imul hx hb dX10_little_74 ?_
      refine lv_iadd hx hb dX10_little_75 ?_
      rw [← Option.some.inj hr]
      exact fin_i C hV hS rfl dX10_little_76
    · have hr := ie b_7 hr
      refine lv_iconst (v := (-1)) hx hb dX10_little_44 (by decide) ?_
      rw [← Option.some.inj hr]
      exact fin_i C hV hS rfl dX10_little_45
  · have hr := it b_2 hr
    refine lv_iconst (v := (-1)) hx hb dX10_little_8 (by decide) ?_
    rw [← Option.some.inj hr]
    exact fin_i C hV hS rfl dX10_little_9
set_option maxHeartbeats 4000000 in
set_option maxRecDepth 100000 in
theorem c_X10_least (l : Launch) (G : LG) (b0 : Nat) (V : St) (x1 : Int32) (res : Int32 × St) (hr : f_X10_least V x1 = some res) : Met l yX10_least (wy yX10_least cX10_least 3 (some .int)) (rm 4) (va_Pc [.ref (b0 + 208), .int x1] (Iv G b0 V)) (QI G b0 res.1 res.2) 0 0 (Ab b0) := by
  refine mk_m (by decide +kernel) (Nat.le_of_ble_eq_true rfl) ?_
  intro p e s m below meth c C hV hS ls hl
  obtain ⟨args, hargs⟩ : ∃ z, z = ([.ref (b0 + 208), .int x1] : List Value).toArray := ⟨_, rfl⟩
  rw [← hargs] at C ⊢
  obtain ⟨hx, hb, hrt, hml, hown, hts, hlocks, hK, hSv⟩ := id C
  have hl : lv_has ls 3 [(0, .ref (b0 + 208)), (1, .int x1)] := hl
  have K_14 : ∀ (V : St) (x1 : Int32) (y0 : Int32), f_X10_least_b14 V x1 y0 = some res → ∀ (H : Heap) (locs : List Loc) (ls : Array Slot), Hd G b0 V H → va_S (Ab b0) s.heap H locs → lv_has ls 3 [(0, .ref (b0 + 208)), (1, .int x1)] → W p l e (rm 4) s m args below meth c H locs 0 0 (MQ below (QI G b0 res.1 res.2) args s 0 0 (Ab b0)) (F0 m 14 ls [.int y0, .ref (b0 + 208)]) := by
    intro V x1 y0 hr H locs ls hV hS hl
    unfold f_X10_least_b14 at hr
    refine p_X10_0 (x := y0) C hV hS q_1391 dX10_least_14 (fun H locs hV hS => ?_)
    refine lv_aload_n hx hb dX10_least_17 rfl (lv_at hl 0 rfl) ?_
    refine g_X10_0 C hV q_1391 dX10_least_18 ?_
    refine lv_if_le (tgt := 26) hx hb dX10_least_21 (by decide) (fun b_1 => ?_) (fun b_1 => ?_)
    · have hr := it b_1 hr
      refine lv_aload_n hx hb dX10_least_26 rfl (lv_at hl 0 rfl) ?_
      refine lv_iload_n hx hb dX10_least_27 rfl (lv_at hl 1 rfl) ?_
      obtain ⟨q2, e2, hr⟩ := ob hr
      refine cal_i (run_V (As := [.int x1]) (rest := []) C hV hS (c_X10_little l G b0 (up V 208 0 y0) x1 q2 e2) (rcv hK hV (kd_lt z_208 (by decide)) (cel_20 z_208) rfl) q_1683 q_1685 q_125 q_151 q_1686 dk_X10_little (rm_ok (by decide) (by decide)) hl.1 rfl (Nat.le_of_ble_eq_true rfl) dX10_least_28 ⟨Nat.zero_le _, Nat.zero_le _⟩) hS (fun H locs hV hS => ?_)
      refine lv_istore_n (lv' := [(2, .int q2.1), (0, .ref (b0 + 208)), (1, .int x1)]) hx hb dX10_least_31 rfl hl (by decide) rfl (fun ls hl => ?_)
      refine lv_iload_n hx hb dX10_least_32 rfl (lv_at hl 0 rfl) ?_
      refine lv_iconst (v := (-1)) hx hb dX10_least_33 (by decide) ?_
      refine lv_icmp_ne (tgt := 45) hx hb dX10_least_34 (by decide) (fun b_3 => ?_) (fun b_3 => ?_)
      · have hr := ie b_3 hr
        refine lv_iload_n hx hb dX10_least_45 rfl (lv_at hl 0 rfl) ?_
        rw [← Option.some.inj hr]
        exact fin_i C hV hS rfl dX10_least_46
      · have hr := it b_3 hr
        refine lv_aload_n hx hb dX10_least_37 rfl (lv_at hl 1 rfl) ?_
        refine lv_iconst (v := 2) hx hb dX10_least_38 (by decide) ?_
        obtain ⟨q4, e4, hr⟩ := ob hr
        refine cal_i (run_V (As := [.int 2]) (rest := []) C hV hS (c_X10_fails l G b0 q2.2 2 q4 e4) (rcv hK hV (kd_lt z_208 (by decide)) (cel_20 z_208) rfl) q_1523 q_1525 q_103 q_151 q_1526 dk_X10_fails (rm_ok (by decide) (by decide)) hl.1 rfl (Nat.le_of_ble_eq_true rfl) dX10_least_39 ⟨Nat.zero_le _, Nat.zero_le _⟩) hS (fun H locs hV hS => ?_)
        refine lv_goto (tgt := 46) hx hb dX10_least_42 (by decide) ?_
        rw [← Option.some.inj hr]
        exact fin_i C hV hS rfl dX10_least_46
    · have hr := ie b_1 hr
      refine lv_iconst (v := 0) hx hb dX10_least_24 (by decide) ?_
      rw [← Option.some.inj hr]
      exact fin_i C hV hS rfl dX10_least_25
  unfold f_X10_least at hr
  refine lv_aload_n hx hb dX10_least_0 rfl (lv_at hl 0 rfl) ?_
  refine lv_aload_n hx hb dX10_least_1 rfl (lv_at hl 0 rfl) ?_
  refine lv_iload_n hx hb dX10_least_2 rfl (lv_at hl 1 rfl) ?_
  obtain ⟨q5, e5, hr⟩ := ob hr
  refine cal_i (run_V (As := [.int x1]) (rest := [.ref (b0 + 208)]) C hV hS (c_X10_isNote l G b0 V x1 q5 e5) (rcv hK hV (kd_lt z_208 (by decide)) (cel_20 z_208) rfl) q_1667 q_1669 q_122 q_151 q_1670 dk_X10_isNote (rm_ok (by decide) (by decide)) hl.1 rfl (Nat.le_of_ble_eq_true rfl) dX10_least_3 ⟨Nat.zero_le _, Nat.zero_le _⟩) hS (fun H locs hV hS => ?_)
  refine lv_if_eq (tgt := 13) hx hb dX10_least_6 (by decide) (fun b_6 => ?_) (fun b_6 => ?_)
  · have hr := it b_6 hr
    refine lv_iconst (v := 1) hx hb dX10_least_13 (by decide) ?_
    exact K_14 _ x1 1 hr _ _ ls hV hS (lv_sub hl [0, 1] rfl)
  · have hr := ie b_6 hr
    refine lv_iconst (v := 0) hx hb dX10_least_9 (by decide) ?_
    refine lv_goto (tgt := 14) hx hb dX10_least_10 (by decide) ?_
    exact K_14 _ x1 0 hr _ _ ls hV hS (lv_sub hl [0, 1] rfl)
set_option maxHeartbeats 4000000 in
set_option maxRecDepth 100000 in
theorem c_X10_leastAgain (l : Launch) (G : LG) (b0 : Nat) (V : St) (x1 : Int32) (res : Int32 × St) (hr : f_X10_leastAgain V x1 = some res) : Met l yX10_leastAgain (wy yX10_leastAgain cX10_leastAgain 2 (some .int)) (rm 5) (va_Pc [.ref (b0 + 208), .int x1] (Iv G b0 V)) (QI G b0 res.1 res.2) 0 0 (Ab b0) := by
  refine mk_m (by decide +kernel) (Nat.le_of_ble_eq_true rfl) ?_
  intro p e s m below meth c C hV hS ls hl
  obtain ⟨args, hargs⟩ : ∃ z, z = ([.ref (b0 + 208), .int x1] : List Value).toArray := ⟨_, rfl⟩
  rw [← hargs] at C ⊢
  obtain ⟨hx, hb, hrt, hml, hown, hts, hlocks, hK, hSv⟩ := id C
  have hl : lv_has ls 2 [(0, .ref (b0 + 208)), (1, .int x1)] := hl
  unfold f_X10_leastAgain at hr
  refine lv_aload_n hx hb dX10_leastAgain_0 rfl (lv_at hl 0 rfl) ?_
  refine lv_iload_n hx hb dX10_leastAgain_1 rfl (lv_at hl 1 rfl) ?_
  obtain ⟨q1, e1, hr⟩ := ob hr
  refine cal_i (run_V (As := [.int x1]) (rest := []) C hV hS (c_X10_least l G b0 V x1 q1 e1) (rcv hK hV (kd_lt z_208 (by decide)) (cel_20 z_208) rfl) q_1691 q_1680 q_1681 q_151 q_1682 dk_X10_least (rm_ok (by decide) (by decide)) hl.1 rfl (Nat.le_of_ble_eq_true rfl) dX10_leastAgain_2 ⟨Nat.zero_le _, Nat.zero_le _⟩) hS (fun H locs hV hS => ?_)
  rw [← Option.some.inj hr]
  exact fin_i C hV hS rfl dX10_leastAgain_5
set_option maxHeartbeats 4000000 in
set_option maxRecDepth 100000 in
theorem c_X10_joins (l : Launch) (G : LG) (b0 : Nat) (V : St) (x1 : Int32) (x2 : Int32) (x3 : Int32) (res : Int32) (hr : f_X10_joins V x1 x2 x3 = some res) : Met l yX10_joins (wy yX10_joins cX10_joins 6 (some .int)) (rm 2) (va_Pc [.ref (b0 + 208), .int x1, .int x2, .int x3] (Iv G b0 V)) (QI G b0 res V) 0 0 (Ab b0) := by
  refine mk_m (by decide +kernel) (Nat.le_of_ble_eq_true rfl) ?_
  intro p e s m below meth c C hV hS ls hl
  obtain ⟨args, hargs⟩ : ∃ z, z = ([.ref (b0 + 208), .int x1, .int x2, .int x3] : List Value).toArray := ⟨_, rfl⟩
  rw [← hargs] at C ⊢
  obtain ⟨hx, hb, hrt, hml, hown, hts, hlocks, hK, hSv⟩ := id C
  have hl : lv_has ls 6 [(0, .ref (b0 + 208)), (1, .int x1), (2, .int x2), (3, .int x3)] := hl
  have K_15 : ∀ (x1 : Int32) (x2 : Int32) (x3 : Int32) (y0 : Int32), f_X10_joins_b15 V x1 x2 x3 y0 = some res → ∀ (H : Heap) (locs : List Loc) (ls : Array Slot), Hd G b0 V H → va_S (Ab b0) s.heap H locs → lv_has ls 6 [(0, .ref (b0 + 208)), (1, .int x1), (2, .int x2), (3, .int x3)] → W p l e (rm 2) s m args below meth c H locs 0 0 (MQ below (QI G b0 res V) args s 0 0 (Ab b0)) (F0 m 15 ls [.int y0]) := by
    intro x1 x2 x3 y0 hr H locs ls hV hS hl
    unfold f_X10_joins_b15 at hr
    refine lv_istore (lv' := [(4, .int y0), (0, .ref (b0 + 208)), (1, .int x1), (2, .int x2), (3, .int x3)]) hx hb dX10_joins_15 hl (by decide) rfl (fun ls hl => ?_)
    refine lv_aload_n hx hb dX10_joins_17 rfl (lv_at hl 1 rfl) ?_
    refine lv_iload_n hx hb dX10_joins_18 rfl (lv_at hl 2 rfl) ?_
    refine lv_iload_n hx hb dX10_joins_19 rfl (lv_at hl 3 rfl) ?_
    obtain ⟨q1, e1, hr⟩ := ob hr
    refine cal_i (run_V (As := [.int x1, .int x2]) (rest := []) C hV hS (c_X10_of l G b0 V x1 x2 q1 e1) (rcv hK hV (kd_lt z_208 (by decide)) (cel_20 z_208) rfl) q_1503 q_1505 q_98 q_151 q_1506 dk_X10_of (rm_ok (by decide) (by decide)) hl.1 rfl (Nat.le_of_ble_eq_true rfl) dX10_joins_20 ⟨Nat.zero_le _, Nat.zero_le _⟩) hS (fun H locs hV hS => ?_)
    refine lv_iload_n hx hb dX10_joins_23 rfl (lv_at hl 4 rfl) ?_
    refine lv_ishr hx hb dX10_joins_24 ?_
    refine lv_iconst (v := 1) hx hb dX10_joins_25 (by decide) ?_
    refine lv_iand hx hb dX10_joins_26 ?_
    refine lv_if_eq (tgt := 53) hx hb dX10_joins_27 (by decide) (fun b_2 => ?_) (fun b_2 => ?_)
    · have hr := it b_2 hr
      refine lv_iconst (v := (-1)) hx hb dX10_joins_53 (by decide) ?_
      exact fin_i C hV hS (Option.some.inj hr) dX10_joins_54
    · have hr := ie b_2 hr
      refine lv_aload_n hx hb dX10_joins_30 rfl (lv_at hl 1 rfl) ?_
      refine g_X10_19 C hV q_1410 dX10_joins_31 ?_
      refine lv_iload_n hx hb dX10_joins_34 rfl (lv_at hl 4 rfl) ?_
      refine lv_ishr hx hb dX10_joins_35 ?_
      refine lv_iconst (v := 1) hx hb dX10_joins_36 (by decide) ?_
      refine lv_iand hx hb dX10_joins_37 ?_
      refine lv_if_eq (tgt := 53) hx hb dX10_joins_38 (by decide) (fun b_3 => ?_) (fun b_3 => ?_)
      · have hr := it b_3 hr
        refine lv_iconst (v := (-1)) hx hb dX10_joins_53 (by decide) ?_
        exact fin_i C hV hS (Option.some.inj hr) dX10_joins_54
      · have hr := ie b_3 hr
        refine lv_aload_n hx hb dX10_joins_41 rfl (lv_at hl 1 rfl) ?_
        refine g_X10_19 C hV q_1410 dX10_joins_42 ?_
        refine lv_iload hx hb dX10_joins_45 (lv_at hl 0 rfl) ?_
        refine lv_ishr hx hb dX10_joins_47 ?_
        refine lv_iconst (v := 1) hx hb dX10_joins_48 (by decide) ?_
        refine lv_iand hx hb dX10_joins_49 ?_
        refine lv_if_ne (tgt := 55) hx hb dX10_joins_50 (by decide) (fun b_4 => ?_) (fun b_4 => ?_)
        · have hr := ie b_4 hr
          refine lv_aload_n hx hb dX10_joins_55 rfl (lv_at hl 1 rfl) ?_
          refine lv_iload_n hx hb dX10_joins_56 rfl (lv_at hl 4 rfl) ?_
          refine lv_aload_n hx hb dX10_joins_57 rfl (lv_at hl 1 rfl) ?_
          refine g_X10_19 C hV q_1410 dX10_joins_58 ?_
          obtain ⟨q5, e5, hr⟩ := ob hr
          refine cal_i (run_V (As := [.int x3, .int (V 208 19)]) (rest := []) C hV hS (c_X10_together l G b0 V x3 (V 208 19) q5 e5) (rcv hK hV (kd_lt z_208 (by decide)) (cel_20 z_208) rfl) q_1551 q_1553 q_107 q_151 q_1554 dk_X10_together (rm_ok (by decide) (by decide)) hl.1 rfl (Nat.le_of_ble_eq_true rfl) dX10_joins_61 ⟨Nat.zero_le _, Nat.zero_le _⟩) hS (fun H locs hV hS => ?_)
          refine lv_istore (lv' := [(5, .int q5), (4, .int y0), (0, .ref (b0 + 208)), (1, .int x1), (2, .int x2), (3, .int x3)]) hx hb dX10_joins_64 hl (by decide) rfl (fun ls hl => ?_)
          refine lv_iload hx hb dX10_joins_66 (lv_at hl 0 rfl) ?_
          refine lv_iload hx hb dX10_joins_68 (lv_at hl 1 rfl) ?_
          refine lv_ishr hx hb dX10_joins_70 ?_
          refine lv_iconst (v := 1) hx hb dX10_joins_71 (by decide) ?_
          refine lv_iand hx hb dX10_joins_72 ?_
          refine lv_iconst (v := 1) hx hb dX10_joins_73 (by decide) ?_
          refine lv_icmp_ne (tgt := 81) hx hb dX10_joins_74 (by decide) (fun b_6 => ?_) (fun b_6 => ?_)
          · have hr := ie b_6 hr
            refine lv_iload hx hb dX10_joins_81 (lv_at hl 0 rfl) ?_
            obtain ⟨q7, e7, hr⟩ := ob hr
            refine cal_i (run_S (As := [.int q5]) (rest := []) C hV hS (c_X10_bits l G b0 V q5 q7 e7) q_1595 q_1596 q_151 q_1597 dk_X10_bits (rm_ok (by decide) (by decide)) hl.1 rfl (Nat.le_of_ble_eq_true rfl) dX10_joins_83 ⟨Nat.zero_le _, Nat.zero_le _⟩) hS (fun H locs hV hS => ?_)
            refine lv_aload_n hx hb dX10_joins_86 rfl (lv_at hl 2 rfl) ?_
            refine lv_iload hx hb dX10_joins_87 (lv_at hl 1 rfl) ?_
            refine lv_aload_n hx hb dX10_joins_89 rfl (lv_at hl 2 rfl) ?_
            refine g_X10_19 C hV q_1410 dX10_joins_90 ?_
            obtain ⟨q8, e8, hr⟩ := ob hr
            refine cal_i (run_V (As := [.int y0, .int (V 208 19)]) (rest := [.int q7]) C hV hS (c_X10_together l G b0 V y0 (V 208 19) q8 e8) (rcv hK hV (kd_lt z_208 (by decide)) (cel_20 z_208) rfl) q_1551 q_1553 q_107 q_151 q_1554 dk_X10_together (rm_ok (by decide) (by decide)) hl.1 rfl (Nat.le_of_ble_eq_true rfl) dX10_joins_93 ⟨Nat.zero_le _, Nat.zero_le _⟩) hS (fun H locs hV hS => ?_)
            obtain ⟨q9, e9, hr⟩ := ob hr
            refine cal_i (run_S (As := [.int q8]) (rest := [.int q7]) C hV hS (c_X10_bits l G b0 V q8 q9 e9) q_1595 q_1596 q_151 q_1597 dk_X10_bits (rm_ok (by decide) (by decide)) hl.1 rfl (Nat.le_of_ble_eq_true rfl) dX10_joins_96 ⟨Nat.zero_le _, Nat.zero_le _⟩) hS (fun H locs hV hS => ?_)
            refine lv_iadd hx hb dX10_joins_99 ?_
            exact fin_i C hV hS (Option.some.inj hr) dX10_joins_100
          · have hr := it b_6 hr
            refine lv_iconst (v := (-1)) hx hb dX10_joins_77 (by decide) ?_
            refine lv_goto (tgt := 100) hx hb dX10_joins_78 (by decide) ?_
            exact fin_i C hV hS (Option.some.inj hr) dX10_joins_100
        · have hr := it b_4 hr
          refine lv_iconst (v := (-1)) hx hb dX10_joins_53 (by decide) ?_
          exact fin_i C hV hS (Option.some.inj hr) dX10_joins_54
  unfold f_X10_joins at hr
  refine lv_iload_n hx hb dX10_joins_0 rfl (lv_at hl 2 rfl) ?_
  refine lv_iconst (v := 2) hx hb dX10_joins_1 (by decide) ?_
  refine lv_icmp_ne (tgt := 11) hx hb dX10_joins_2 (by decide) (fun b_10 => ?_) (fun b_10 => ?_)
  · have hr := ie b_10 hr
    refine lv_iload_n hx hb dX10_joins_11 rfl (lv_at hl 3 rfl) ?_
    refine lv_bipush (v := 6) hx hb dX10_joins_12 (by decide) ?_
    refine lv_iadd hx hb dX10_joins_14 ?_
    exact K_15 x1 x2 x3 (x3 + 6) hr _ _ ls hV hS (lv_sub hl [0, 1, 2, 3] rfl)
  · have hr := it b_10 hr
    refine lv_iload_n hx hb dX10_joins_5 rfl (lv_at hl 3 rfl) ?_
    refine lv_iconst (v := 1) hx hb dX10_joins_6 (by decide) ?_
    refine lv_iadd hx hb dX10_joins_7 ?_
    refine lv_goto (tgt := 15) hx hb dX10_joins_8 (by decide) ?_
    exact K_15 x1 x2 x3 (x3 + 1) hr _ _ ls hV hS (lv_sub hl [0, 1, 2, 3] rfl)
set_option maxHeartbeats 4000000 in
set_option maxRecDepth 100000 in
theorem c_X10_bestMend (l : Launch) (G : LG) (b0 : Nat) (V : St) (x1 : Int32) (x2 : Int32) (res : Int32 × St) (hr : f_X10_bestMend V x1 x2 = some res) : Met l yX10_bestMend (wy yX10_bestMend cX10_bestMend 9 (some .int)) (rm 3) (va_Pc [.ref (b0 + 208), .int x1, .int x2] (Iv G b0 V)) (QI G b0 res.1 res.2) 0 0 (Ab b0) := by
  refine mk_m (by decide +kernel) (Nat.le_of_ble_eq_true rfl) ?_
  intro p e s m below meth c C hV hS ls hl
  obtain ⟨args, hargs⟩ : ∃ z, z = ([.ref (b0 + 208), .int x1, .int x2] : List Value).toArray := ⟨_, rfl⟩
  rw [← hargs] at C ⊢
  obtain ⟨hx, hb, hrt, hml, hown, hts, hlocks, hK, hSv⟩ := id C
  have hl : lv_has ls 9 [(0, .ref (b0 + 208)), (1, .int x1), (2, .int x2)] := hl
  have K_98 : ∀ (c_50 : St → Int32 → Int32 → Int32 → Int32 → Int32 → Int32 → Int32 → Option (Int32 × St)) (hc_50 : ∀ (V : St) (x1 : Int32) (x2 : Int32) (x3 : Int32) (x4 : Int32) (x5 : Int32) (x6 : Int32) (x7 : Int32), c_50 V x1 x2 x3 x4 x5 x6 x7 = some res → ∀ (H : Heap) (locs : List Loc) (ls : Array Slot), Hd G b0 V H → va_S (Ab b0) s.heap H locs → lv_has ls 9 [(0, .ref (b0 + 208)), (1, .int x1), (2, .int x2), (3, .int x3), (4, .int x4), (5, .int x5), (6, .int x6), (7, .int x7)] → W p l e (rm 3) s m args below meth c H locs 0 0 (MQ below (QI G b0 res.1 res.2) args s 0 0 (Ab b0)) (F0 m 50 ls [])) (c_41 : St → Int32 → Int32 → Int32 → Int32 → Int32 → Int32 → Option (Int32 × St)) (hc_41 : ∀ (V : St) (x1 : Int32) (x2 : Int32) (x3 : Int32) (x4 : Int32) (x5 : Int32) (x6 : Int32), c_41 V x1 x2 x3 x4 x5 x6 = some res → ∀ (H : Heap) (locs : List Loc) (ls : Array Slot), Hd G b0 V H → va_S (Ab b0) s.heap H locs → lv_has ls 9 [(0, .ref (b0 + 208)), (1, .int x1), (2, .int x2), (3, .int x3), (4, .int x4), (5, .int x5), (6, .int x6)] → W p l e (rm 3) s m args below meth c H locs 0 0 (MQ below (QI G b0 res.1 res.2) args s 0 0 (Ab b0)) (F0 m 41 ls [])) (V : St) (x1 : Int32) (x2 : Int32) (x3 : Int32) (x4 : Int32) (x5 : Int32) (x6 : Int32) (x7 : Int32), f_X10_bestMend_b98 c_50 c_41 V x1 x2 x3 x4 x5 x6 x7 = some res → ∀ (H : Heap) (locs : List Loc) (ls : Array Slot), Hd G b0 V H → va_S (Ab b0) s.heap H locs → lv_has ls 9 [(0, .ref (b0 + 208)), (1, .int x1), (2, .int x2), (3, .int x3), (4, .int x4), (5, .int x5), (6, .int x6), (7, .int x7)] → W p l e (rm 3) s m args below meth c H locs 0 0 (MQ below (QI G b0 res.1 res.2) args s 0 0 (Ab b0)) (F0 m 98 ls []) := by
    intro c_50 hc_50 c_41 hc_41 V x1 x2 x3 x4 x5 x6 x7 hr H locs ls hV hS hl
    unfold f_X10_bestMend_b98 at hr
    refine lv_iinc (v := x7 + 1) (lv' := [(7, .int (x7 + 1)), (0, .ref (b0 + 208)), (1, .int x1), (2, .int x2), (3, .int x3), (4, .int x4), (5, .int x5), (6, .int x6)]) hx hb dX10_bestMend_98 hl (k := 7) rfl rfl (by decide) rfl (fun ls hl => ?_)
    refine lv_goto (tgt := 50) hx hb dX10_bestMend_101 (by decide) ?_
    exact hc_50 _ x1 x2 x3 x4 x5 x6 (x7 + 1) hr _ _ ls hV hS (lv_sub hl [1, 2, 3, 4, 5, 6, 7, 0] rfl)
  have K_96 : ∀ (c_50 : St → Int32 → Int32 → Int32 → Int32 → Int32 → Int32 → Int32 → Option (Int32 × St)) (hc_50 : ∀ (V : St) (x1 : Int32) (x2 : Int32) (x3 : Int32) (x4 : Int32) (x5 : Int32) (x6 : Int32) (x7 : Int32), c_50 V x1 x2 x3 x4 x5 x6 x7 = some res → ∀ (H : Heap) (locs : List Loc) (ls : Array Slot), Hd G b0 V H → va_S (Ab b0) s.heap H locs → lv_has ls 9 [(0, .ref (b0 + 208)), (1, .int x1), (2, .int x2), (3, .int x3), (4, .int x4), (5, .int x5), (6, .int x6), (7, .int x7)] → W p l e (rm 3) s m args below meth c H locs 0 0 (MQ below (QI G b0 res.1 res.2) args s 0 0 (Ab b0)) (F0 m 50 ls [])) (c_41 : St → Int32 → Int32 → Int32 → Int32 → Int32 → Int32 → Option (Int32 × St)) (hc_41 : ∀ (V : St) (x1 : Int32) (x2 : Int32) (x3 : Int32) (x4 : Int32) (x5 : Int32) (x6 : Int32), c_41 V x1 x2 x3 x4 x5 x6 = some res → ∀ (H : Heap) (locs : List Loc) (ls : Array Slot), Hd G b0 V H → va_S (Ab b0) s.heap H locs → lv_has ls 9 [(0, .ref (b0 + 208)), (1, .int x1), (2, .int x2), (3, .int x3), (4, .int x4), (5, .int x5), (6, .int x6)] → W p l e (rm 3) s m args below meth c H locs 0 0 (MQ below (QI G b0 res.1 res.2) args s 0 0 (Ab b0)) (F0 m 41 ls [])) (V : St) (x1 : Int32) (x2 : Int32) (x3 : Int32) (x4 : Int32) (x6 : Int32) (x7 : Int32) (y0 : Int32), f_X10_bestMend_b96 c_50 c_41 V x1 x2 x3 x4 x6 x7 y0 = some res → ∀ (H : Heap) (locs : List Loc) (ls : Array Slot), Hd G b0 V H → va_S (Ab b0) s.heap H locs → lv_has ls 9 [(0, .ref (b0 + 208)), (1, .int x1), (2, .int x2), (3, .int x3), (4, .int x4), (6, .int x6), (7, .int x7)] → W p l e (rm 3) s m args below meth c H locs 0 0 (MQ below (QI G b0 res.1 res.2) args s 0 0 (Ab b0)) (F0 m 96 ls [.int y0]) := by
    intro c_50 hc_50 c_41 hc_41 V x1 x2 x3 x4 x6 x7 y0 hr H locs ls hV hS hl
    unfold f_X10_bestMend_b96 at hr
    refine lv_istore (lv' := [(5, .int y0), (0, .ref (b0 + 208)), (1, .int x1), (2, .int x2), (3, .int x3), (4, .int x4), (6, .int x6), (7, .int x7)]) hx hb dX10_bestMend_96 hl (by decide) rfl (fun ls hl => ?_)
    exact K_98 c_50 hc_50 c_41 hc_41 _ x1 x2 x3 x4 y0 x6 x7 hr _ _ ls hV hS (lv_sub hl [1, 2, 3, 4, 5, 0, 6, 7] rfl)
  have K_50 : ∀ (c_41 : St → Int32 → Int32 → Int32 → Int32 → Int32 → Int32 → Option (Int32 × St)) (hc_41 : ∀ (V : St) (x1 : Int32) (x2 : Int32) (x3 : Int32) (x4 : Int32) (x5 : Int32) (x6 : Int32), c_41 V x1 x2 x3 x4 x5 x6 = some res → ∀ (H : Heap) (locs : List Loc) (ls : Array Slot), Hd G b0 V H → va_S (Ab b0) s.heap H locs → lv_has ls 9 [(0, .ref (b0 + 208)), (1, .int x1), (2, .int x2), (3, .int x3), (4, .int x4), (5, .int x5), (6, .int x6)] → W p l e (rm 3) s m args below meth c H locs 0 0 (MQ below (QI G b0 res.1 res.2) args s 0 0 (Ab b0)) (F0 m 41 ls [])) (n : Nat) (V : St) (x1 : Int32) (x2 : Int32) (x3 : Int32) (x4 : Int32) (x5 : Int32) (x6 : Int32) (x7 : Int32), f_X10_bestMend_b50 c_41 n V x1 x2 x3 x4 x5 x6 x7 = some res → ∀ (H : Heap) (locs : List Loc) (ls : Array Slot), Hd G b0 V H → va_S (Ab b0) s.heap H locs → lv_has ls 9 [(0, .ref (b0 + 208)), (1, .int x1), (2, .int x2), (3, .int x3), (4, .int x4), (5, .int x5), (6, .int x6), (7, .int x7)] → W p l e (rm 3) s m args below meth c H locs 0 0 (MQ below (QI G b0 res.1 res.2) args s 0 0 (Ab b0)) (F0 m 50 ls []) := by
    intro c_41 hc_41 n
    induction n with
    | zero =>
      intro V x1 x2 x3 x4 x5 x6 x7 hr
      rw [f_X10_bestMend_b50] at hr
      cases hr
    | succ n ih =>
      intro V x1 x2 x3 x4 x5 x6 x7 hr H locs ls hV hS hl
      rw [f_X10_bestMend_b50] at hr
      refine lv_iload hx hb dX10_bestMend_50 (lv_at hl 7 rfl) ?_
      refine lv_bipush (v := 24) hx hb dX10_bestMend_52 (by decide) ?_
      refine lv_icmp_ge (tgt := 104) hx hb dX10_bestMend_54 (by decide) (fun b_1 => ?_) (fun b_1 => ?_)
      · have hr := it b_1 hr
        refine lv_iinc (v := x6 + 1) (lv' := [(6, .int (x6 + 1)), (0, .ref (b0 + 208)), (1, .int x1), (2, .int x2), (3, .int x3), (4, .int x4), (5, .int x5), (7, .int x7)]) hx hb dX10_bestMend_104 hl (k := 6) rfl rfl (by decide) rfl (fun ls hl => ?_)
        refine lv_goto (tgt := 41) hx hb dX10_bestMend_107 (by decide) ?_
        exact hc_41 _ x1 x2 x3 x4 x5 (x6 + 1) hr _ _ ls hV hS (lv_sub hl [1, 2, 3, 4, 5, 6, 0] rfl)
      · have hr := ie b_1 hr
        refine lv_aload_n hx hb dX10_bestMend_57 rfl (lv_at hl 0 rfl) ?_
        refine lv_iload_n hx hb dX10_bestMend_58 rfl (lv_at hl 1 rfl) ?_
        refine lv_iload hx hb dX10_bestMend_59 (lv_at hl 6 rfl) ?_
        refine lv_iload hx hb dX10_bestMend_61 (lv_at hl 7 rfl) ?_
        obtain ⟨q2, e2, hr⟩ := ob hr
        refine cal_i (run_V (As := [.int x1, .int x6, .int x7]) (rest := []) C hV hS (c_X10_joins l G b0 V x1 x6 x7 q2 e2) (rcv hK hV (kd_lt z_208 (by decide)) (cel_20 z_208) rfl) q_1696 q_1698 q_126 q_151 q_1699 dk_X10_joins (rm_ok (by decide) (by decide)) hl.1 rfl (Nat.le_of_ble_eq_true rfl) dX10_bestMend_63 ⟨Nat.zero_le _, Nat.zero_le _⟩) hS (fun H locs hV hS => ?_)
        refine lv_istore (lv' := [(8, .int q2), (0, .ref (b0 + 208)), (1, .int x1), (2, .int x2), (3, .int x3), (4, .int x4), (5, .int x5), (6, .int x6), (7, .int x7)]) hx hb dX10_bestMend_66 hl (by decide) rfl (fun ls hl => ?_)
        refine lv_iload hx hb dX10_bestMend_68 (lv_at hl 0 rfl) ?_
        refine lv_iload_n hx hb dX10_bestMend_70 rfl (lv_at hl 4 rfl) ?_
        refine lv_icmp_gt (tgt := 77) hx hb dX10_bestMend_71 (by decide) (fun b_3 => ?_) (fun b_3 => ?_)
        · have hr := it b_3 hr
          refine lv_iload hx hb dX10_bestMend_77 (lv_at hl 0 rfl) ?_
          refine lv_istore_n (lv' := [(3, .int q2), (8, .int q2), (0, .ref (b0 + 208)), (1, .int x1), (2, .int x2), (4, .int x4), (5, .int x5), (6, .int x6), (7, .int x7)]) hx hb dX10_bestMend_79 rfl hl (by decide) rfl (fun ls hl => ?_)
          refine lv_iload hx hb dX10_bestMend_80 (lv_at hl 8 rfl) ?_
          refine lv_istore (lv' := [(4, .int x7), (3, .int q2), (8, .int q2), (0, .ref (b0 + 208)), (1, .int x1), (2, .int x2), (5, .int x5), (6, .int x6), (7, .int x7)]) hx hb dX10_bestMend_82 hl (by decide) rfl (fun ls hl => ?_)
          refine lv_iload hx hb dX10_bestMend_84 (lv_at hl 7 rfl) ?_
          refine lv_iconst (v := 2) hx hb dX10_bestMend_86 (by decide) ?_
          refine lv_icmp_ne (tgt := 94) hx hb dX10_bestMend_87 (by decide) (fun b_4 => ?_) (fun b_4 => ?_)
          · have hr := ie b_4 hr
            refine lv_bipush (v := 6) hx hb dX10_bestMend_94 (by decide) ?_
            exact K_96 (fun V x1 x2 x3 x4 x5 x6 x7 => f_X10_bestMend_b50 c_41 n V x1 x2 x3 x4 x5 x6 x7) (fun V x1 x2 x3 x4 x5 x6 x7 hr => ih V x1 x2 x3 x4 x5 x6 x7 hr) c_41 hc_41 _ x1 x2 q2 x7 x6 x7 6 hr _ _ ls hV hS (lv_sub hl [3, 4, 5, 1, 0, 7, 8] rfl)
          · have hr := it b_4 hr
            refine lv_iconst (v := 1) hx hb dX10_bestMend_90 (by decide) ?_
            refine lv_goto (tgt := 96) hx hb dX10_bestMend_91 (by decide) ?_
            exact K_96 (fun V x1 x2 x3 x4 x5 x6 x7 => f_X10_bestMend_b50 c_41 n V x1 x2 x3 x4 x5 x6 x7) (fun V x1 x2 x3 x4 x5 x6 x7 hr => ih V x1 x2 x3 x4 x5 x6 x7 hr) c_41 hc_41 _ x1 x2 q2 x7 x6 x7 1 hr _ _ ls hV hS (lv_sub hl [3, 4, 5, 1, 0, 7, 8] rfl)
        · have hr := ie b_3 hr
          refine lv_goto (tgt := 98) hx hb dX10_bestMend_74 (by decide) ?_
          exact K_98 (fun V x1 x2 x3 x4 x5 x6 x7 => f_X10_bestMend_b50 c_41 n V x1 x2 x3 x4 x5 x6 x7) (fun V x1 x2 x3 x4 x5 x6 x7 hr => ih V x1 x2 x3 x4 x5 x6 x7 hr) c_41 hc_41 _ x1 x2 x3 x4 x5 x6 x7 hr _ _ ls hV hS (lv_sub hl [1, 2, 3, 4, 5, 6, 7, 8] rfl)
  have K_41 : ∀ (n : Nat) (V : St) (x1 : Int32) (x2 : Int32) (x3 : Int32) (x4 : Int32) (x5 : Int32) (x6 : Int32), f_X10_bestMend_b41 n V x1 x2 x3 x4 x5 x6 = some res → ∀ (H : Heap) (locs : List Loc) (ls : Array Slot), Hd G b0 V H → va_S (Ab b0) s.heap H locs → lv_has ls 9 [(0, .ref (b0 + 208)), (1, .int x1), (2, .int x2), (3, .int x3), (4, .int x4), (5, .int x5), (6, .int x6)] → W p l e (rm 3) s m args below meth c H locs 0 0 (MQ below (QI G b0 res.1 res.2) args s 0 0 (Ab b0)) (F0 m 41 ls []) := by
    intro  n
    induction n with
    | zero =>
      intro V x1 x2 x3 x4 x5 x6 hr
      rw [f_X10_bestMend_b41] at hr
      cases hr
    | succ n ih =>
      intro V x1 x2 x3 x4 x5 x6 hr H locs ls hV hS hl
      rw [f_X10_bestMend_b41] at hr
      refine lv_iload hx hb dX10_bestMend_41 (lv_at hl 6 rfl) ?_
      refine lv_iconst (v := 3) hx hb dX10_bestMend_43 (by decide) ?_
      refine lv_icmp_gt (tgt := 110) hx hb dX10_bestMend_44 (by decide) (fun b_5 => ?_) (fun b_5 => ?_)
      · have hr := it b_5 hr
        refine lv_iload hx hb dX10_bestMend_110 (lv_at hl 4 rfl) ?_
        refine lv_iconst (v := (-1)) hx hb dX10_bestMend_112 (by decide) ?_
        refine lv_icmp_ne (tgt := 124) hx hb dX10_bestMend_113 (by decide) (fun b_6 => ?_) (fun b_6 => ?_)
        · have hr := ie b_6 hr
          refine lv_iload_n hx hb dX10_bestMend_124 rfl (lv_at hl 2 rfl) ?_
          refine lv_if_eq (tgt := 136) hx hb dX10_bestMend_125 (by decide) (fun b_7 => ?_) (fun b_7 => ?_)
          · have hr := it b_7 hr
            refine lv_iload hx hb dX10_bestMend_136 (lv_at hl 4 rfl) ?_
            rw [← Option.some.inj hr]
            exact fin_i C hV hS rfl dX10_bestMend_138
          · have hr := ie b_7 hr
            refine lv_iload hx hb dX10_bestMend_128 (lv_at hl 4 rfl) ?_
            refine lv_iload hx hb dX10_bestMend_130 (lv_at hl 5 rfl) ?_
            refine lv_iadd hx hb dX10_bestMend_132 ?_
            refine lv_goto (tgt := 138) hx hb dX10_bestMend_133 (by decide) ?_
            rw [← Option.some.inj hr]
            exact fin_i C hV hS rfl dX10_bestMend_138
        · have hr := it b_6 hr
          refine lv_aload_n hx hb dX10_bestMend_116 rfl (lv_at hl 0 rfl) ?_
          refine lv_iconst (v := 2) hx hb dX10_bestMend_117 (by decide) ?_
          obtain ⟨q8, e8, hr⟩ := ob hr
          refine cal_i (run_V (As := [.int 2]) (rest := []) C hV hS (c_X10_fails l G b0 V 2 q8 e8) (rcv hK hV (kd_lt z_208 (by decide)) (cel_20 z_208) rfl) q_1523 q_1525 q_103 q_151 q_1526 dk_X10_fails (rm_ok (by decide) (by decide)) hl.1 rfl (Nat.le_of_ble_eq_true rfl) dX10_bestMend_118 ⟨Nat.zero_le _, Nat.zero_le _⟩) hS (fun H locs hV hS => ?_)
          refine lv_goto (tgt := 138) hx hb dX10_bestMend_121 (by decide) ?_
          rw [← Option.some.inj hr]
          exact fin_i C hV hS rfl dX10_bestMend_138
      · have hr := ie b_5 hr
        refine lv_iconst (v := 0) hx hb dX10_bestMend_47 (by decide) ?_
        refine lv_istore (lv' := [(7, .int 0), (0, .ref (b0 + 208)), (1, .int x1), (2, .int x2), (3, .int x3), (4, .int x4), (5, .int x5), (6, .int x6)]) hx hb dX10_bestMend_48 hl (by decide) rfl (fun ls hl => ?_)
        exact K_50 (fun V x1 x2 x3 x4 x5 x6 => f_X10_bestMend_b41 n V x1 x2 x3 x4 x5 x6) (fun V x1 x2 x3 x4 x5 x6 hr => ih V x1 x2 x3 x4 x5 x6 hr) 500 _ x1 x2 x3 x4 x5 x6 0 hr _ _ ls hV hS (lv_sub hl [1, 2, 3, 4, 5, 6, 7, 0] rfl)
  have K_13 : ∀ (V : St) (x1 : Int32) (x2 : Int32) (y0 : Int32), f_X10_bestMend_b13 V x1 x2 y0 = some res → ∀ (H : Heap) (locs : List Loc) (ls : Array Slot), Hd G b0 V H → va_S (Ab b0) s.heap H locs → lv_has ls 9 [(0, .ref (b0 + 208)), (1, .int x1), (2, .int x2)] → W p l e (rm 3) s m args below meth c H locs 0 0 (MQ below (QI G b0 res.1 res.2) args s 0 0 (Ab b0)) (F0 m 13 ls [.int y0, .ref (b0 + 208)]) := by
    intro V x1 x2 y0 hr H locs ls hV hS hl
    unfold f_X10_bestMend_b13 at hr
    refine p_X10_0 (x := y0) C hV hS q_1391 dX10_bestMend_13 (fun H locs hV hS => ?_)
    refine lv_aload_n hx hb dX10_bestMend_16 rfl (lv_at hl 0 rfl) ?_
    refine g_X10_0 C hV q_1391 dX10_bestMend_17 ?_
    refine lv_if_le (tgt := 25) hx hb dX10_bestMend_20 (by decide) (fun b_9 => ?_) (fun b_9 => ?_)
    · have hr := it b_9 hr
      refine lv_aload_n hx hb dX10_bestMend_25 rfl (lv_at hl 0 rfl) ?_
      refine lv_iload_n hx hb dX10_bestMend_26 rfl (lv_at hl 1 rfl) ?_
      obtain ⟨q10, e10, hr⟩ := ob hr
      refine cal_v (run_V (As := [.int x1]) (rest := []) C hV hS (c_X10_looksAt l G b0 (up V 208 0 y0) x1 q10 e10) (rcv hK hV (kd_lt z_208 (by decide)) (cel_20 z_208) rfl) q_1538 q_1540 q_105 q_151 q_1541 dk_X10_looksAt (rm_ok (by decide) (by decide)) hl.1 rfl (Nat.le_of_ble_eq_true rfl) dX10_bestMend_27 ⟨Nat.zero_le _, Nat.zero_le _⟩) hS (fun H locs hV hS => ?_)
      refine lv_iconst (v := (-1)) hx hb dX10_bestMend_30 (by decide) ?_
      refine lv_istore_n (lv' := [(3, .int (-1)), (0, .ref (b0 + 208)), (1, .int x1), (2, .int x2)]) hx hb dX10_bestMend_31 rfl hl (by decide) rfl (fun ls hl => ?_)
      refine lv_iconst (v := (-1)) hx hb dX10_bestMend_32 (by decide) ?_
      refine lv_istore (lv' := [(4, .int (-1)), (3, .int (-1)), (0, .ref (b0 + 208)), (1, .int x1), (2, .int x2)]) hx hb dX10_bestMend_33 hl (by decide) rfl (fun ls hl => ?_)
      refine lv_iconst (v := 0) hx hb dX10_bestMend_35 (by decide) ?_
      refine lv_istore (lv' := [(5, .int 0), (4, .int (-1)), (3, .int (-1)), (0, .ref (b0 + 208)), (1, .int x1), (2, .int x2)]) hx hb dX10_bestMend_36 hl (by decide) rfl (fun ls hl => ?_)
      refine lv_iconst (v := 2) hx hb dX10_bestMend_38 (by decide) ?_
      refine lv_istore (lv' := [(6, .int 2), (5, .int 0), (4, .int (-1)), (3, .int (-1)), (0, .ref (b0 + 208)), (1, .int x1), (2, .int x2)]) hx hb dX10_bestMend_39 hl (by decide) rfl (fun ls hl => ?_)
      exact K_41 500 _ x1 x2 (-1) (-1) 0 2 hr _ _ ls hV hS (lv_sub hl [4, 5, 6, 3, 2, 1, 0] rfl)
    · have hr := ie b_9 hr
      refine lv_iconst (v := 0) hx hb dX10_bestMend_23 (by decide) ?_
      rw [← Option.some.inj hr]
      exact fin_i C hV hS rfl dX10_bestMend_24
  unfold f_X10_bestMend at hr
  refine lv_aload_n hx hb dX10_bestMend_0 rfl (lv_at hl 0 rfl) ?_
  refine lv_iload_n hx hb dX10_bestMend_1 rfl (lv_at hl 1 rfl) ?_
  obtain ⟨q11, e11, hr⟩ := ob hr
  refine cal_i (run_S (As := [.int x1]) (rest := [.ref (b0 + 208)]) C hV hS (c_X10_isNet l G b0 V x1 q11 e11) q_1486 q_1487 q_151 q_1488 dk_X10_isNet (rm_ok (by decide) (by decide)) hl.1 rfl (Nat.le_of_ble_eq_true rfl) dX10_bestMend_2 ⟨Nat.zero_le _, Nat.zero_le _⟩) hS (fun H locs hV hS => ?_)
  refine lv_if_eq (tgt := 12) hx hb dX10_bestMend_5 (by decide) (fun b_12 => ?_) (fun b_12 => ?_)
  · have hr := it b_12 hr
    refine lv_iconst (v := 1) hx hb dX10_bestMend_12 (by decide) ?_
    exact K_13 _ x1 x2 1 hr _ _ ls hV hS (lv_sub hl [0, 1, 2] rfl)
  · have hr := ie b_12 hr
    refine lv_iconst (v := 0) hx hb dX10_bestMend_8 (by decide) ?_
    refine lv_goto (tgt := 13) hx hb dX10_bestMend_9 (by decide) ?_
    exact K_13 _ x1 x2 0 hr _ _ ls hV hS (lv_sub hl [0, 1, 2] rfl)
