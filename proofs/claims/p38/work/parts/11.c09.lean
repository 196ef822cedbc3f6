set_option maxHeartbeats 4000000 in
set_option maxRecDepth 100000 in
theorem c_X9_reasonAgainstOrder (l : Launch) (G : LG) (b0 : Nat) (V : St) (x1 : Int32) (res : Int32 × St) (hr : f_X9_reasonAgainstOrder V x1 = some res) : Met l yX9_reasonAgainstOrder (wy yX9_reasonAgainstOrder cX9_reasonAgainstOrder 5 (some .int)) (rm 5) (va_Pc [.ref (b0 + 0), .int x1] (Iv G b0 V)) (QI G b0 res.1 res.2) 0 0 (Ab b0) := by
  refine mk_m (by decide +kernel) (Nat.le_of_ble_eq_true rfl) ?_
  intro p e s m below meth c C hV hS ls hl
  obtain ⟨args, hargs⟩ : ∃ z, z = ([.ref (b0 + 0), .int x1] : List Value).toArray := ⟨_, rfl⟩
  rw [← hargs] at C ⊢
  obtain ⟨hx, hb, hrt, hml, hown, hts, hlocks, hK, hSv⟩ := id C
  have hl : lv_has ls 5 [(0, .ref (b0 + 0)), (1, .int x1)] := hl
  unfold f_X9_reasonAgainstOrder at hr
  refine lv_aload_n hx hb dX9_reasonAgainstOrder_0 rfl (lv_at hl 0 rfl) ?_
  refine g_X9_6 C hV q_345 dX9_reasonAgainstOrder_1 ?_
  refine lv_iload_n hx hb dX9_reasonAgainstOrder_4 rfl (lv_at hl 1 rfl) ?_
  refine lv_iconst (v := 0) hx hb dX9_reasonAgainstOrder_5 (by decide) ?_
  obtain ⟨q1, e1, hr⟩ := ob hr
  refine cal_i (run_VN (As := [.int x1, .int 0]) (rest := []) C hV hS (c_X7_numberAt l G b0 V x1 0 q1 e1) (rcv hK hV (kd_lt z_192 (by decide)) (cel_12 z_192) rfl) q_1218 q_1220 q_64 q_100 q_1221 dk_X7_numberAt (rm_ok (by decide) (by decide)) hl.1 rfl (Nat.le_of_ble_eq_true rfl) dX9_reasonAgainstOrder_6 ⟨Nat.zero_le _, Nat.zero_le _⟩) hS (fun H locs hV hS => ?_)
  refine lv_istore_n (lv' := [(2, .int q1), (0, .ref (b0 + 0)), (1, .int x1)]) hx hb dX9_reasonAgainstOrder_9 rfl hl (by decide) rfl (fun ls hl => ?_)
  refine lv_aload_n hx hb dX9_reasonAgainstOrder_10 rfl (lv_at hl 1 rfl) ?_
  refine g_X9_6 C hV q_345 dX9_reasonAgainstOrder_11 ?_
  refine lv_iload_n hx hb dX9_reasonAgainstOrder_14 rfl (lv_at hl 2 rfl) ?_
  refine lv_iconst (v := 1) hx hb dX9_reasonAgainstOrder_15 (by decide) ?_
  obtain ⟨q2, e2, hr⟩ := ob hr
  refine cal_i (run_VN (As := [.int x1, .int 1]) (rest := []) C hV hS (c_X7_numberAt l G b0 V x1 1 q2 e2) (rcv hK hV (kd_lt z_192 (by decide)) (cel_12 z_192) rfl) q_1218 q_1220 q_64 q_100 q_1221 dk_X7_numberAt (rm_ok (by decide) (by decide)) hl.1 rfl (Nat.le_of_ble_eq_true rfl) dX9_reasonAgainstOrder_16 ⟨Nat.zero_le _, Nat.zero_le _⟩) hS (fun H locs hV hS => ?_)
  refine lv_istore_n (lv' := [(3, .int q2), (2, .int q1), (0, .ref (b0 + 0)), (1, .int x1)]) hx hb dX9_reasonAgainstOrder_19 rfl hl (by decide) rfl (fun ls hl => ?_)
  refine lv_aload_n hx hb dX9_reasonAgainstOrder_20 rfl (lv_at hl 2 rfl) ?_
  refine g_X9_6 C hV q_345 dX9_reasonAgainstOrder_21 ?_
  refine lv_iload_n hx hb dX9_reasonAgainstOrder_24 rfl (lv_at hl 3 rfl) ?_
  refine lv_iconst (v := 2) hx hb dX9_reasonAgainstOrder_25 (by decide) ?_
  obtain ⟨q3, e3, hr⟩ := ob hr
  refine cal_i (run_VN (As := [.int x1, .int 2]) (rest := []) C hV hS (c_X7_numberAt l G b0 V x1 2 q3 e3) (rcv hK hV (kd_lt z_192 (by decide)) (cel_12 z_192) rfl) q_1218 q_1220 q_64 q_100 q_1221 dk_X7_numberAt (rm_ok (by decide) (by decide)) hl.1 rfl (Nat.le_of_ble_eq_true rfl) dX9_reasonAgainstOrder_26 ⟨Nat.zero_le _, Nat.zero_le _⟩) hS (fun H locs hV hS => ?_)
  refine lv_istore (lv' := [(4, .int q3), (3, .int q2), (2, .int q1), (0, .ref (b0 + 0)), (1, .int x1)]) hx hb dX9_reasonAgainstOrder_29 hl (by decide) rfl (fun ls hl => ?_)
  refine lv_aload_n hx hb dX9_reasonAgainstOrder_31 rfl (lv_at hl 3 rfl) ?_
  refine g_X9_6 C hV q_345 dX9_reasonAgainstOrder_32 ?_
  refine lv_iload_n hx hb dX9_reasonAgainstOrder_35 rfl (lv_at hl 4 rfl) ?_
  obtain ⟨q4, e4, hr⟩ := ob hr
  refine cal_i (run_VN (As := [.int x1]) (rest := []) C hV hS (c_X7_wordAt l G b0 V x1 q4 e4) (rcv hK hV (kd_lt z_192 (by decide)) (cel_12 z_192) rfl) q_1222 q_1224 q_65 q_100 q_1225 dk_X7_wordAt (rm_ok (by decide) (by decide)) hl.1 rfl (Nat.le_of_ble_eq_true rfl) dX9_reasonAgainstOrder_36 ⟨Nat.zero_le _, Nat.zero_le _⟩) hS (fun H locs hV hS => ?_)
  by_cases b_5 : q4 = 0
  · have hr := it b_5 hr
    refine lv_tableIn (off := 41) (tgt := 80) hx hb dX9_reasonAgainstOrder_39 (by rw [b_5]; decide) (by rw [b_5]; decide) (by rw [b_5]; decide +kernel) (by decide) ?_
    refine lv_aload_n hx hb dX9_reasonAgainstOrder_80 rfl (lv_at hl 3 rfl) ?_
    refine lv_iload_n hx hb dX9_reasonAgainstOrder_81 rfl (lv_at hl 2 rfl) ?_
    refine lv_iload_n hx hb dX9_reasonAgainstOrder_82 rfl (lv_at hl 1 rfl) ?_
    refine lv_iload hx hb dX9_reasonAgainstOrder_83 (lv_at hl 0 rfl) ?_
    obtain ⟨q6, e6, hr⟩ := ob hr
    refine cal_i (run_V (As := [.int q1, .int q2, .int q3]) (rest := []) C hV hS (c_X9_reasonAgainstKnot l G b0 V q1 q2 q3 q6 e6) (rcv hK hV (kd_lt z_0 (by decide)) (cel_0 z_0) rfl) q_608 q_610 q_18 q_93 q_611 dk_X9_reasonAgainstKnot (rm_ok (by decide) (by decide)) hl.1 rfl (Nat.le_of_ble_eq_true rfl) dX9_reasonAgainstOrder_85 ⟨Nat.zero_le _, Nat.zero_le _⟩) hS (fun H locs hV hS => ?_)
    rw [← Option.some.inj hr]
    exact fin_i C hV hS rfl dX9_reasonAgainstOrder_88
  have hr := ie b_5 hr
  by_cases b_7 : q4 = 1
  · have hr := it b_7 hr
    refine lv_tableIn (off := 50) (tgt := 89) hx hb dX9_reasonAgainstOrder_39 (by rw [b_7]; decide) (by rw [b_7]; decide) (by rw [b_7]; decide +kernel) (by decide) ?_
    refine lv_aload_n hx hb dX9_reasonAgainstOrder_89 rfl (lv_at hl 3 rfl) ?_
    refine lv_iload_n hx hb dX9_reasonAgainstOrder_90 rfl (lv_at hl 2 rfl) ?_
    refine lv_iload_n hx hb dX9_reasonAgainstOrder_91 rfl (lv_at hl 1 rfl) ?_
    refine lv_iload hx hb dX9_reasonAgainstOrder_92 (lv_at hl 0 rfl) ?_
    obtain ⟨q8, e8, hr⟩ := ob hr
    refine cal_i (run_V (As := [.int q1, .int q2, .int q3]) (rest := []) C hV hS (c_X9_reasonAgainstTear l G b0 V q1 q2 q3 q8 e8) (rcv hK hV (kd_lt z_0 (by decide)) (cel_0 z_0) rfl) q_687 q_689 q_29 q_93 q_690 dk_X9_reasonAgainstTear (rm_ok (by decide) (by decide)) hl.1 rfl (Nat.le_of_ble_eq_true rfl) dX9_reasonAgainstOrder_94 ⟨Nat.zero_le _, Nat.zero_le _⟩) hS (fun H locs hV hS => ?_)
    rw [← Option.some.inj hr]
    exact fin_i C hV hS rfl dX9_reasonAgainstOrder_97
  have hr := ie b_7 hr
  by_cases b_9 : q4 = 2
  · have hr := it b_9 hr
    refine lv_tableIn (off := 59) (tgt := 98) hx hb dX9_reasonAgainstOrder_39 (by rw [b_9]; decide) (by rw [b_9]; decide) (by rw [b_9]; decide +kernel) (by decide) ?_
    refine lv_aload_n hx hb dX9_reasonAgainstOrder_98 rfl (lv_at hl 3 rfl) ?_
    refine lv_iload_n hx hb dX9_reasonAgainstOrder_99 rfl (lv_at hl 2 rfl) ?_
    refine lv_iload_n hx hb dX9_reasonAgainstOrder_100 rfl (lv_at hl 1 rfl) ?_
    refine lv_iload hx hb dX9_reasonAgainstOrder_101 (lv_at hl 0 rfl) ?_
    refine lv_aload_n hx hb dX9_reasonAgainstOrder_103 rfl (lv_at hl 3 rfl) ?_
    refine g_X9_6 C hV q_345 dX9_reasonAgainstOrder_104 ?_
    refine lv_iload_n hx hb dX9_reasonAgainstOrder_107 rfl (lv_at hl 4 rfl) ?_
    refine lv_iconst (v := 3) hx hb dX9_reasonAgainstOrder_108 (by decide) ?_
    obtain ⟨q10, e10, hr⟩ := ob hr
    refine cal_i (run_VN (As := [.int x1, .int 3]) (rest := [.int q3, .int q2, .int q1, .ref (b0 + 0)]) C hV hS (c_X7_numberAt l G b0 V x1 3 q10 e10) (rcv hK hV (kd_lt z_192 (by decide)) (cel_12 z_192) rfl) q_1218 q_1220 q_64 q_100 q_1221 dk_X7_numberAt (rm_ok (by decide) (by decide)) hl.1 rfl (Nat.le_of_ble_eq_true rfl) dX9_reasonAgainstOrder_109 ⟨Nat.zero_le _, Nat.zero_le _⟩) hS (fun H locs hV hS => ?_)
    obtain ⟨q11, e11, hr⟩ := ob hr
    refine cal_i (run_V (As := [.int q1, .int q2, .int q3, .int q10]) (rest := []) C hV hS (c_X9_reasonAgainstMend l G b0 V q1 q2 q3 q10 q11 e11) (rcv hK hV (kd_lt z_0 (by decide)) (cel_0 z_0) rfl) q_734 q_736 q_35 q_93 q_737 dk_X9_reasonAgainstMend (rm_ok (by decide) (by decide)) hl.1 rfl (Nat.le_of_ble_eq_true rfl) dX9_reasonAgainstOrder_112 ⟨Nat.zero_le _, Nat.zero_le _⟩) hS (fun H locs hV hS => ?_)
    rw [← Option.some.inj hr]
    exact fin_i C hV hS rfl dX9_reasonAgainstOrder_115
  have hr := ie b_9 hr
  by_cases b_12 : q4 = 3
  · have hr := it b_12 hr
    refine lv_tableIn (off := 77) (tgt := 116) hx hb dX9_reasonAgainstOrder_39 (by rw [b_12]; decide) (by rw [b_12]; decide) (by rw [b_12]; decide +kernel) (by decide) ?_
    refine lv_aload_n hx hb dX9_reasonAgainstOrder_116 rfl (lv_at hl 3 rfl) ?_
    refine lv_iload_n hx hb dX9_reasonAgainstOrder_117 rfl (lv_at hl 2 rfl) ?_
    obtain ⟨q13, e13, hr⟩ := ob hr
    refine cal_i (run_V (As := [.int q1]) (rest := []) C hV hS (c_X9_reasonAgainstEditor l G b0 V q1 q13 e13) (rcv hK hV (kd_lt z_0 (by decide)) (cel_0 z_0) rfl) q_760 q_762 q_38 q_93 q_763 dk_X9_reasonAgainstEditor (rm_ok (by decide) (by decide)) hl.1 rfl (Nat.le_of_ble_eq_true rfl) dX9_reasonAgainstOrder_118 ⟨Nat.zero_le _, Nat.zero_le _⟩) hS (fun H locs hV hS => ?_)
    rw [← Option.some.inj hr]
    exact fin_i C hV hS rfl dX9_reasonAgainstOrder_121
  have hr := ie b_12 hr
  by_cases b_14 : q4 = 4
  · have hr := it b_14 hr
    refine lv_tableIn (off := 83) (tgt := 122) hx hb dX9_reasonAgainstOrder_39 (by rw [b_14]; decide) (by rw [b_14]; decide) (by rw [b_14]; decide +kernel) (by decide) ?_
    refine lv_aload_n hx hb dX9_reasonAgainstOrder_122 rfl (lv_at hl 3 rfl) ?_
    refine lv_iload_n hx hb dX9_reasonAgainstOrder_123 rfl (lv_at hl 2 rfl) ?_
    obtain ⟨q15, e15, hr⟩ := ob hr
    refine cal_i (run_V (As := [.int q1]) (rest := []) C hV hS (c_X9_reasonAgainstTide l G b0 V q1 q15 e15) (rcv hK hV (kd_lt z_0 (by decide)) (cel_0 z_0) rfl) q_776 q_778 q_40 q_93 q_779 dk_X9_reasonAgainstTide (rm_ok (by decide) (by decide)) hl.1 rfl (Nat.le_of_ble_eq_true rfl) dX9_reasonAgainstOrder_124 ⟨Nat.zero_le _, Nat.zero_le _⟩) hS (fun H locs hV hS => ?_)
    rw [← Option.some.inj hr]
    exact fin_i C hV hS rfl dX9_reasonAgainstOrder_127
  have hr := ie b_14 hr
  by_cases b_16 : q4 = 5
  · have hr := it b_16 hr
    refine lv_tableIn (off := 89) (tgt := 128) hx hb dX9_reasonAgainstOrder_39 (by rw [b_16]; decide) (by rw [b_16]; decide) (by rw [b_16]; decide +kernel) (by decide) ?_
    refine lv_aload_n hx hb dX9_reasonAgainstOrder_128 rfl (lv_at hl 3 rfl) ?_
    refine lv_iload_n hx hb dX9_reasonAgainstOrder_129 rfl (lv_at hl 2 rfl) ?_
    refine lv_iload_n hx hb dX9_reasonAgainstOrder_130 rfl (lv_at hl 1 rfl) ?_
    obtain ⟨q17, e17, hr⟩ := ob hr
    refine cal_i (run_V (As := [.int q1, .int q2]) (rest := []) C hV hS (c_X9_reasonAgainstSink l G b0 V q1 q2 q17 e17) (rcv hK hV (kd_lt z_0 (by decide)) (cel_0 z_0) rfl) q_801 q_803 q_44 q_93 q_804 dk_X9_reasonAgainstSink (rm_ok (by decide) (by decide)) hl.1 rfl (Nat.le_of_ble_eq_true rfl) dX9_reasonAgainstOrder_131 ⟨Nat.zero_le _, Nat.zero_le _⟩) hS (fun H locs hV hS => ?_)
    rw [← Option.some.inj hr]
    exact fin_i C hV hS rfl dX9_reasonAgainstOrder_134
  have hr := ie b_16 hr
  by_cases b_18 : q4 = 6
  · have hr := it b_18 hr
    refine lv_tableIn (off := 96) (tgt := 135) hx hb dX9_reasonAgainstOrder_39 (by rw [b_18]; decide) (by rw [b_18]; decide) (by rw [b_18]; decide +kernel) (by decide) ?_
    refine lv_aload_n hx hb dX9_reasonAgainstOrder_135 rfl (lv_at hl 3 rfl) ?_
    refine lv_iload_n hx hb dX9_reasonAgainstOrder_136 rfl (lv_at hl 2 rfl) ?_
    refine lv_iload_n hx hb dX9_reasonAgainstOrder_137 rfl (lv_at hl 1 rfl) ?_
    obtain ⟨q19, e19, hr⟩ := ob hr
    refine cal_i (run_V (As := [.int q1, .int q2]) (rest := []) C hV hS (c_X9_reasonAgainstNote l G b0 V q1 q2 q19 e19) (rcv hK hV (kd_lt z_0 (by decide)) (cel_0 z_0) rfl) q_814 q_816 q_45 q_93 q_817 dk_X9_reasonAgainstNote (rm_ok (by decide) (by decide)) hl.1 rfl (Nat.le_of_ble_eq_true rfl) dX9_reasonAgainstOrder_138 ⟨Nat.zero_le _, Nat.zero_le _⟩) hS (fun H locs hV hS => ?_)
    rw [← Option.some.inj hr]
    exact fin_i C hV hS rfl dX9_reasonAgainstOrder_141
  have hr := ie b_18 hr
  have n_5 := lv_neT (a := 0) b_5 (by decide)
  have n_7 := lv_neT (a := 1) b_7 (by decide)
  have n_9 := lv_neT (a := 2) b_9 (by decide)
  have n_12 := lv_neT (a := 3) b_12 (by decide)
  have n_14 := lv_neT (a := 4) b_14 (by decide)
  have n_16 := lv_neT (a := 5) b_16 (by decide)
  have n_18 := lv_neT (a := 6) b_18 (by decide)
  refine lv_tableOut (tgt := 142) hx hb dX9_reasonAgainstOrder_39 (by omega) (by decide) ?_
  refine lv_aload_n hx hb dX9_reasonAgainstOrder_142 rfl (lv_at hl 3 rfl) ?_
  refine lv_iload_n hx hb dX9_reasonAgainstOrder_143 rfl (lv_at hl 2 rfl) ?_
  obtain ⟨q20, e20, hr⟩ := ob hr
  refine cal_i (run_V (As := [.int q1]) (rest := []) C hV hS (c_X9_reasonAgainstDrop l G b0 V q1 q20 e20) (rcv hK hV (kd_lt z_0 (by decide)) (cel_0 z_0) rfl) q_835 q_837 q_48 q_93 q_838 dk_X9_reasonAgainstDrop (rm_ok (by decide) (by decide)) hl.1 rfl (Nat.le_of_ble_eq_true rfl) dX9_reasonAgainstOrder_144 ⟨Nat.zero_le _, Nat.zero_le _⟩) hS (fun H locs hV hS => ?_)
  rw [← Option.some.inj hr]
  exact fin_i C hV hS rfl dX9_reasonAgainstOrder_147
set_option maxHeartbeats 4000000 in
set_option maxRecDepth 100000 in
theorem c_X9_doOrder (l : Launch) (G : LG) (b0 : Nat) (V : St) (x1 : Int32) (res : St) (hr : f_X9_doOrder V x1 = some res) : Met l yX9_doOrder (wy yX9_doOrder cX9_doOrder 5 none) (rm 4) (va_Pc [.ref (b0 + 0), .int x1] (Iv G b0 V)) (QV G b0 res) 0 0 (Ab b0) := by
  refine mk_m (by decide +kernel) (Nat.le_of_ble_eq_true rfl) ?_
  intro p e s m below meth c C hV hS ls hl
  obtain ⟨args, hargs⟩ : ∃ z, z = ([.ref (b0 + 0), .int x1] : List Value).toArray := ⟨_, rfl⟩
  rw [← hargs] at C ⊢
  obtain ⟨hx, hb, hrt, hml, hown, hts, hlocks, hK, hSv⟩ := id C
  have hl : lv_has ls 5 [(0, .ref (b0 + 0)), (1, .int x1)] := hl
  unfold f_X9_doOrder at hr
  refine lv_aload_n hx hb dX9_doOrder_0 rfl (lv_at hl 0 rfl) ?_
  refine g_X9_6 C hV q_345 dX9_doOrder_1 ?_
  refine lv_iload_n hx hb dX9_doOrder_4 rfl (lv_at hl 1 rfl) ?_
  refine lv_iconst (v := 0) hx hb dX9_doOrder_5 (by decide) ?_
  obtain ⟨q1, e1, hr⟩ := ob hr
  refine cal_i (run_VN (As := [.int x1, .int 0]) (rest := []) C hV hS (c_X7_numberAt l G b0 V x1 0 q1 e1) (rcv hK hV (kd_lt z_192 (by decide)) (cel_12 z_192) rfl) q_1218 q_1220 q_64 q_100 q_1221 dk_X7_numberAt (rm_ok (by decide) (by decide)) hl.1 rfl (Nat.le_of_ble_eq_true rfl) dX9_doOrder_6 ⟨Nat.zero_le _, Nat.zero_le _⟩) hS (fun H locs hV hS => ?_)
  refine lv_istore_n (lv' := [(2, .int q1), (0, .ref (b0 + 0)), (1, .int x1)]) hx hb dX9_doOrder_9 rfl hl (by decide) rfl (fun ls hl => ?_)
  refine lv_aload_n hx hb dX9_doOrder_10 rfl (lv_at hl 1 rfl) ?_
  refine g_X9_6 C hV q_345 dX9_doOrder_11 ?_
  refine lv_iload_n hx hb dX9_doOrder_14 rfl (lv_at hl 2 rfl) ?_
  refine lv_iconst (v := 1) hx hb dX9_doOrder_15 (by decide) ?_
  obtain ⟨q2, e2, hr⟩ := ob hr
  refine cal_i (run_VN (As := [.int x1, .int 1]) (rest := []) C hV hS (c_X7_numberAt l G b0 V x1 1 q2 e2) (rcv hK hV (kd_lt z_192 (by decide)) (cel_12 z_192) rfl) q_1218 q_1220 q_64 q_100 q_1221 dk_X7_numberAt (rm_ok (by decide) (by decide)) hl.1 rfl (Nat.le_of_ble_eq_true rfl) dX9_doOrder_16 ⟨Nat.zero_le _, Nat.zero_le _⟩) hS (fun H locs hV hS => ?_)
  refine lv_istore_n (lv' := [(3, .int q2), (2, .int q1), (0, .ref (b0 + 0)), (1, .int x1)]) hx hb dX9_doOrder_19 rfl hl (by decide) rfl (fun ls hl => ?_)
  refine lv_aload_n hx hb dX9_doOrder_20 rfl (lv_at hl 2 rfl) ?_
  refine g_X9_6 C hV q_345 dX9_doOrder_21 ?_
  refine lv_iload_n hx hb dX9_doOrder_24 rfl (lv_at hl 3 rfl) ?_
  refine lv_iconst (v := 2) hx hb dX9_doOrder_25 (by decide) ?_
  obtain ⟨q3, e3, hr⟩ := ob hr
  refine cal_i (run_VN (As := [.int x1, .int 2]) (rest := []) C hV hS (c_X7_numberAt l G b0 V x1 2 q3 e3) (rcv hK hV (kd_lt z_192 (by decide)) (cel_12 z_192) rfl) q_1218 q_1220 q_64 q_100 q_1221 dk_X7_numberAt (rm_ok (by decide) (by decide)) hl.1 rfl (Nat.le_of_ble_eq_true rfl) dX9_doOrder_26 ⟨Nat.zero_le _, Nat.zero_le _⟩) hS (fun H locs hV hS => ?_)
  refine lv_istore (lv' := [(4, .int q3), (3, .int q2), (2, .int q1), (0, .ref (b0 + 0)), (1, .int x1)]) hx hb dX9_doOrder_29 hl (by decide) rfl (fun ls hl => ?_)
  refine lv_aload_n hx hb dX9_doOrder_31 rfl (lv_at hl 3 rfl) ?_
  refine g_X9_6 C hV q_345 dX9_doOrder_32 ?_
  refine lv_iload_n hx hb dX9_doOrder_35 rfl (lv_at hl 4 rfl) ?_
  obtain ⟨q4, e4, hr⟩ := ob hr
  refine cal_i (run_VN (As := [.int x1]) (rest := []) C hV hS (c_X7_wordAt l G b0 V x1 q4 e4) (rcv hK hV (kd_lt z_192 (by decide)) (cel_12 z_192) rfl) q_1222 q_1224 q_65 q_100 q_1225 dk_X7_wordAt (rm_ok (by decide) (by decide)) hl.1 rfl (Nat.le_of_ble_eq_true rfl) dX9_doOrder_36 ⟨Nat.zero_le _, Nat.zero_le _⟩) hS (fun H locs hV hS => ?_)
  by_cases b_5 : q4 = 0
  · have hr := it b_5 hr
    refine lv_tableIn (off := 41) (tgt := 80) hx hb dX9_doOrder_39 (by rw [b_5]; decide) (by rw [b_5]; decide) (by rw [b_5]; decide +kernel) (by decide) ?_
    refine lv_aload_n hx hb dX9_doOrder_80 rfl (lv_at hl 3 rfl) ?_
    refine g_X9_0 C hV q_339 dX9_doOrder_81 ?_
    refine lv_iload_n hx hb dX9_doOrder_84 rfl (lv_at hl 2 rfl) ?_
    obtain ⟨q6, e6, hr⟩ := ob hr
    refine cal_r (run_VN (As := [.int q1]) (rest := []) C hV hS (c_X8_netNumbered l G b0 V 1 z_1 q1 q6 e6) (rcv hK hV (kd_lt z_1 (by decide)) (cel_1 z_1) rfl) q_483 q_485 q_1 q_94 q_486 dk_X8_netNumbered (rm_ok (by decide) (by decide)) hl.1 rfl (Nat.le_of_ble_eq_true rfl) dX9_doOrder_85 ⟨Nat.zero_le _, Nat.zero_le _⟩) hS (fun H locs hV hS => ?_)
    refine lv_iload_n hx hb dX9_doOrder_88 rfl (lv_at hl 1 rfl) ?_
    refine lv_iload hx hb dX9_doOrder_89 (lv_at hl 0 rfl) ?_
    obtain ⟨q7, e7, hr⟩ := ob hr
    refine cal_v (run_VN (As := [.int q2, .int q3]) (rest := []) C hV hS (c_X3_tie l G b0 V q6 (kr_X8_netNumbered z_1 e6) q2 q3 q7 e7) (rcv hK hV (kd_lt (kr_X8_netNumbered z_1 e6) (by decide)) (cel_5 (kr_X8_netNumbered z_1 e6)) rfl) q_673 q_675 q_28 q_95 q_676 dk_X3_tie (rm_ok (by decide) (by decide)) hl.1 rfl (Nat.le_of_ble_eq_true rfl) dX9_doOrder_91 ⟨Nat.zero_le _, Nat.zero_le _⟩) hS (fun H locs hV hS => ?_)
    refine lv_goto (tgt := 191) hx hb dX9_doOrder_94 (by decide) ?_
    exact fin_v C hV hS (Option.some.inj hr) dX9_doOrder_191
  have hr := ie b_5 hr
  by_cases b_8 : q4 = 1
  · have hr := it b_8 hr
    refine lv_tableIn (off := 58) (tgt := 97) hx hb dX9_doOrder_39 (by rw [b_8]; decide) (by rw [b_8]; decide) (by rw [b_8]; decide +kernel) (by decide) ?_
    refine lv_aload_n hx hb dX9_doOrder_97 rfl (lv_at hl 3 rfl) ?_
    refine g_X9_0 C hV q_339 dX9_doOrder_98 ?_
    refine lv_iload_n hx hb dX9_doOrder_101 rfl (lv_at hl 2 rfl) ?_
    refine lv_iload_n hx hb dX9_doOrder_102 rfl (lv_at hl 1 rfl) ?_
    refine lv_iload hx hb dX9_doOrder_103 (lv_at hl 0 rfl) ?_
    obtain ⟨q9, e9, hr⟩ := ob hr
    refine cal_v (run_VN (As := [.int q1, .int q2, .int q3]) (rest := []) C hV hS (c_X8_tearString l G b0 V 1 z_1 q1 q2 q3 q9 e9) (rcv hK hV (kd_lt z_1 (by decide)) (cel_1 z_1) rfl) q_719 q_721 q_33 q_94 q_722 dk_X8_tearString (rm_ok (by decide) (by decide)) hl.1 rfl (Nat.le_of_ble_eq_true rfl) dX9_doOrder_105 ⟨Nat.zero_le _, Nat.zero_le _⟩) hS (fun H locs hV hS => ?_)
    refine lv_goto (tgt := 191) hx hb dX9_doOrder_108 (by decide) ?_
    exact fin_v C hV hS (Option.some.inj hr) dX9_doOrder_191
  have hr := ie b_8 hr
  by_cases b_10 : q4 = 2
  · have hr := it b_10 hr
    refine lv_tableIn (off := 72) (tgt := 111) hx hb dX9_doOrder_39 (by rw [b_10]; decide) (by rw [b_10]; decide) (by rw [b_10]; decide +kernel) (by decide) ?_
    refine lv_aload_n hx hb dX9_doOrder_111 rfl (lv_at hl 3 rfl) ?_
    refine g_X9_0 C hV q_339 dX9_doOrder_112 ?_
    refine lv_iload_n hx hb dX9_doOrder_115 rfl (lv_at hl 2 rfl) ?_
    refine lv_iload_n hx hb dX9_doOrder_116 rfl (lv_at hl 1 rfl) ?_
    refine lv_iload hx hb dX9_doOrder_117 (lv_at hl 0 rfl) ?_
    refine lv_aload_n hx hb dX9_doOrder_119 rfl (lv_at hl 3 rfl) ?_
    refine g_X9_6 C hV q_345 dX9_doOrder_120 ?_
    refine lv_iload_n hx hb dX9_doOrder_123 rfl (lv_at hl 4 rfl) ?_
    refine lv_iconst (v := 3) hx hb dX9_doOrder_124 (by decide) ?_
    obtain ⟨q11, e11, hr⟩ := ob hr
    refine cal_i (run_VN (As := [.int x1, .int 3]) (rest := [.int q3, .int q2, .int q1, .ref (b0 + 1)]) C hV hS (c_X7_numberAt l G b0 V x1 3 q11 e11) (rcv hK hV (kd_lt z_192 (by decide)) (cel_12 z_192) rfl) q_1218 q_1220 q_64 q_100 q_1221 dk_X7_numberAt (rm_ok (by decide) (by decide)) hl.1 rfl (Nat.le_of_ble_eq_true rfl) dX9_doOrder_125 ⟨Nat.zero_le _, Nat.zero_le _⟩) hS (fun H locs hV hS => ?_)
    obtain ⟨q12, e12, hr⟩ := ob hr
    refine cal_v (run_VN (As := [.int q1, .int q2, .int q3, .int q11]) (rest := []) C hV hS (c_X8_mendString l G b0 V 1 z_1 q1 q2 q3 q11 q12 e12) (rcv hK hV (kd_lt z_1 (by decide)) (cel_1 z_1) rfl) q_748 q_750 q_37 q_94 q_751 dk_X8_mendString (rm_ok (by decide) (by decide)) hl.1 rfl (Nat.le_of_ble_eq_true rfl) dX9_doOrder_128 ⟨Nat.zero_le _, Nat.zero_le _⟩) hS (fun H locs hV hS => ?_)
    refine lv_goto (tgt := 191) hx hb dX9_doOrder_131 (by decide) ?_
    exact fin_v C hV hS (Option.some.inj hr) dX9_doOrder_191
  have hr := ie b_10 hr
  by_cases b_13 : q4 = 3
  · have hr := it b_13 hr
    refine lv_tableIn (off := 95) (tgt := 134) hx hb dX9_doOrder_39 (by rw [b_13]; decide) (by rw [b_13]; decide) (by rw [b_13]; decide +kernel) (by decide) ?_
    refine lv_aload_n hx hb dX9_doOrder_134 rfl (lv_at hl 3 rfl) ?_
    refine g_X9_0 C hV q_339 dX9_doOrder_135 ?_
    refine lv_iload_n hx hb dX9_doOrder_138 rfl (lv_at hl 2 rfl) ?_
    obtain ⟨q14, e14, hr⟩ := ob hr
    refine cal_v (run_VN (As := [.int q1]) (rest := []) C hV hS (c_X8_addEditor l G b0 V 1 z_1 q1 q14 e14) (rcv hK hV (kd_lt z_1 (by decide)) (cel_1 z_1) rfl) q_765 q_767 q_39 q_94 q_768 dk_X8_addEditor (rm_ok (by decide) (by decide)) hl.1 rfl (Nat.le_of_ble_eq_true rfl) dX9_doOrder_139 ⟨Nat.zero_le _, Nat.zero_le _⟩) hS (fun H locs hV hS => ?_)
    refine lv_goto (tgt := 191) hx hb dX9_doOrder_142 (by decide) ?_
    exact fin_v C hV hS (Option.some.inj hr) dX9_doOrder_191
  have hr := ie b_13 hr
  by_cases b_15 : q4 = 4
  · have hr := it b_15 hr
    refine lv_tableIn (off := 106) (tgt := 145) hx hb dX9_doOrder_39 (by rw [b_15]; decide) (by rw [b_15]; decide) (by rw [b_15]; decide +kernel) (by decide) ?_
    refine lv_aload_n hx hb dX9_doOrder_145 rfl (lv_at hl 3 rfl) ?_
    refine g_X9_0 C hV q_339 dX9_doOrder_146 ?_
    refine lv_iload_n hx hb dX9_doOrder_149 rfl (lv_at hl 2 rfl) ?_
    refine pn_X8_5 (k := 1) (x := q1) C hV hS z_1 q_219 dX9_doOrder_150 (fun H locs hV hS => ?_)
    refine lv_goto (tgt := 191) hx hb dX9_doOrder_153 (by decide) ?_
    exact fin_v C hV hS (Option.some.inj hr) dX9_doOrder_191
  have hr := ie b_15 hr
  by_cases b_16 : q4 = 5
  · have hr := it b_16 hr
    refine lv_tableIn (off := 117) (tgt := 156) hx hb dX9_doOrder_39 (by rw [b_16]; decide) (by rw [b_16]; decide) (by rw [b_16]; decide +kernel) (by decide) ?_
    refine lv_aload_n hx hb dX9_doOrder_156 rfl (lv_at hl 3 rfl) ?_
    refine g_X9_0 C hV q_339 dX9_doOrder_157 ?_
    refine lv_iload_n hx hb dX9_doOrder_160 rfl (lv_at hl 2 rfl) ?_
    obtain ⟨q17, e17, hr⟩ := ob hr
    refine cal_r (run_VN (As := [.int q1]) (rest := []) C hV hS (c_X8_netNumbered l G b0 V 1 z_1 q1 q17 e17) (rcv hK hV (kd_lt z_1 (by decide)) (cel_1 z_1) rfl) q_483 q_485 q_1 q_94 q_486 dk_X8_netNumbered (rm_ok (by decide) (by decide)) hl.1 rfl (Nat.le_of_ble_eq_true rfl) dX9_doOrder_161 ⟨Nat.zero_le _, Nat.zero_le _⟩) hS (fun H locs hV hS => ?_)
    refine lv_iload_n hx hb dX9_doOrder_164 rfl (lv_at hl 1 rfl) ?_
    refine pn_X3_4 (k := q17) (x := q2) C hV hS (kr_X8_netNumbered z_1 e17) q_161 dX9_doOrder_165 (fun H locs hV hS => ?_)
    refine lv_goto (tgt := 191) hx hb dX9_doOrder_168 (by decide) ?_
    exact fin_v C hV hS (Option.some.inj hr) dX9_doOrder_191
  have hr := ie b_16 hr
  by_cases b_18 : q4 = 6
  · have hr := it b_18 hr
    refine lv_tableIn (off := 132) (tgt := 171) hx hb dX9_doOrder_39 (by rw [b_18]; decide) (by rw [b_18]; decide) (by rw [b_18]; decide +kernel) (by decide) ?_
    refine lv_aload_n hx hb dX9_doOrder_171 rfl (lv_at hl 3 rfl) ?_
    refine g_X9_0 C hV q_339 dX9_doOrder_172 ?_
    refine lv_iload_n hx hb dX9_doOrder_175 rfl (lv_at hl 2 rfl) ?_
    refine lv_iload_n hx hb dX9_doOrder_176 rfl (lv_at hl 1 rfl) ?_
    obtain ⟨q19, e19, hr⟩ := ob hr
    refine cal_v (run_VN (As := [.int q1, .int q2]) (rest := []) C hV hS (c_X8_addNote l G b0 V 1 z_1 q1 q2 q19 e19) (rcv hK hV (kd_lt z_1 (by decide)) (cel_1 z_1) rfl) q_824 q_826 q_47 q_94 q_827 dk_X8_addNote (rm_ok (by decide) (by decide)) hl.1 rfl (Nat.le_of_ble_eq_true rfl) dX9_doOrder_177 ⟨Nat.zero_le _, Nat.zero_le _⟩) hS (fun H locs hV hS => ?_)
    refine lv_goto (tgt := 191) hx hb dX9_doOrder_180 (by decide) ?_
    exact fin_v C hV hS (Option.some.inj hr) dX9_doOrder_191
  have hr := ie b_18 hr
  have n_5 := lv_neT (a := 0) b_5 (by decide)
  have n_8 := lv_neT (a := 1) b_8 (by decide)
  have n_10 := lv_neT (a := 2) b_10 (by decide)
  have n_13 := lv_neT (a := 3) b_13 (by decide)
  have n_15 := lv_neT (a := 4) b_15 (by decide)
  have n_16 := lv_neT (a := 5) b_16 (by decide)
  have n_18 := lv_neT (a := 6) b_18 (by decide)
  refine lv_tableOut (tgt := 183) hx hb dX9_doOrder_39 (by omega) (by decide) ?_
  refine lv_aload_n hx hb dX9_doOrder_183 rfl (lv_at hl 3 rfl) ?_
  refine g_X9_0 C hV q_339 dX9_doOrder_184 ?_
  refine lv_iload_n hx hb dX9_doOrder_187 rfl (lv_at hl 2 rfl) ?_
  obtain ⟨q20, e20, hr⟩ := ob hr
  refine cal_v (run_VN (As := [.int q1]) (rest := []) C hV hS (c_X8_removeNote l G b0 V 1 z_1 q1 q20 e20) (rcv hK hV (kd_lt z_1 (by decide)) (cel_1 z_1) rfl) q_844 q_846 q_50 q_94 q_847 dk_X8_removeNote (rm_ok (by decide) (by decide)) hl.1 rfl (Nat.le_of_ble_eq_true rfl) dX9_doOrder_188 ⟨Nat.zero_le _, Nat.zero_le _⟩) hS (fun H locs hV hS => ?_)
  exact fin_v C hV hS (Option.some.inj hr) dX9_doOrder_191
set_option maxHeartbeats 4000000 in
set_option maxRecDepth 100000 in
theorem c_X9_run (l : Launch) (hfl : l.stackTraces = false) (G : LG) (b0 : Nat) (V : St) (res : (Except Nat Int32) × St) (hr : f_X9_run V = some res) : vx_Met l yX9_run (wy yX9_run cX9_run 4 (some .int)) (rmx 8) (va_Pc [.ref (b0 + 0)] (Iv G b0 V)) (QIx G b0 res.1 res.2) (XX G b0 (xe res.1) res.2) 1 6 (Ab b0) := by
  refine mk_x (by decide +kernel) (Nat.le_of_ble_eq_true rfl) ?_
  intro p e s m below meth c C ht hV hS ls hl
  obtain ⟨args, hargs⟩ : ∃ z, z = ([.ref (b0 + 0)] : List Value).toArray := ⟨_, rfl⟩
  rw [← hargs] at C ⊢
  obtain ⟨hx, hb, hrt, hml, hown, hts, hlocks, hK, hSv⟩ := id C
  have hl : lv_has ls 4 [(0, .ref (b0 + 0))] := hl
  have K_49 : ∀ (n : Nat) (V : St) (x2 : Int32), f_X9_run_b49 n V x2 = some res → ∀ (H : Heap) (locs : List Loc) (ls : Array Slot), Hd G b0 V H → va_S (Ab b0) s.heap H locs → lv_has ls 4 [(0, .ref (b0 + 0)), (2, .int x2)] → W p l e (rmx 8) s m args below meth c H locs 0 0 (vx_MQ below (QIx G b0 res.1 res.2) (XX G b0 (xe res.1) res.2) args s 1 6 (Ab b0)) (F0 m 49 ls []) := by
    intro  n
    induction n with
    | zero =>
      intro V x2 hr
      rw [f_X9_run_b49] at hr
      cases hr
    | succ n ih =>
      intro V x2 hr H locs ls hV hS hl
      rw [f_X9_run_b49] at hr
      refine lv_iload_n hx hb dX9_run_49 rfl (lv_at hl 1 rfl) ?_
      refine lv_aload_n hx hb dX9_run_50 rfl (lv_at hl 0 rfl) ?_
      refine g_X9_6 C hV q_345 dX9_run_51 ?_
      refine gn_X7_5 C hV q_291 dX9_run_54 ?_
      refine lv_icmp_ge (tgt := 116) hx hb dX9_run_57 (by decide) (fun b_1 => ?_) (fun b_1 => ?_)
      · have hr := it b_1 hr
        refine lv_aload_n hx hb dX9_run_116 rfl (lv_at hl 0 rfl) ?_
        refine g_X9_4 C hV q_343 dX9_run_117 ?_
        refine lv_aload_n hx hb dX9_run_120 rfl (lv_at hl 0 rfl) ?_
        refine g_X9_1 C hV q_340 dX9_run_121 ?_
        obtain ⟨q2, e2, hr⟩ := ob hr
        refine cal_v (run_VN (As := [.ref (b0 + 18)]) (rest := []) C hV hS (c_X1_push l G b0 V 18 z_18 q2 e2) (rcv hK hV (kd_lt z_52 (by decide)) (cel_8 z_52) rfl) q_650 q_652 q_23 q_98 q_653 dk_X1_push (rmx_ok (by decide) (by decide)) hl.1 rfl (Nat.le_of_ble_eq_true rfl) dX9_run_124 ⟨Nat.zero_le _, Nat.zero_le _⟩) hS (fun H locs hV hS => ?_)
        refine lv_aload_n hx hb dX9_run_127 rfl (lv_at hl 0 rfl) ?_
        refine g_X9_6 C hV q_345 dX9_run_128 ?_
        refine gn_X7_5 C hV q_291 dX9_run_131 ?_
        rw [← Option.some.inj hr]
        exact fin_ix C hV hS rfl dX9_run_134
      · have hr := ie b_1 hr
        refine lv_aload_n hx hb dX9_run_60 rfl (lv_at hl 0 rfl) ?_
        refine lv_iload_n hx hb dX9_run_61 rfl (lv_at hl 1 rfl) ?_
        obtain ⟨q3, e3, hr⟩ := ob hr
        refine cal_i (run_V (As := [.int x2]) (rest := []) C hV hS (c_X9_reasonAgainstOrder l G b0 V x2 q3 e3) (rcv hK hV (kd_lt z_0 (by decide)) (cel_0 z_0) rfl) q_1214 q_1216 q_63 q_93 q_1217 dk_X9_reasonAgainstOrder (rmx_ok (by decide) (by decide)) hl.1 rfl (Nat.le_of_ble_eq_true rfl) dX9_run_62 ⟨Nat.zero_le _, Nat.zero_le _⟩) hS (fun H locs hV hS => ?_)
        refine lv_istore_n (lv' := [(3, .int q3.1), (0, .ref (b0 + 0)), (2, .int x2)]) hx hb dX9_run_65 rfl hl (by decide) rfl (fun ls hl => ?_)
        refine lv_iload_n hx hb dX9_run_66 rfl (lv_at hl 0 rfl) ?_
        refine lv_if_eq (tgt := 105) hx hb dX9_run_67 (by decide) (fun b_4 => ?_) (fun b_4 => ?_)
        · have hr := it b_4 hr
          refine lv_aload_n hx hb dX9_run_105 rfl (lv_at hl 1 rfl) ?_
          refine lv_iload_n hx hb dX9_run_106 rfl (lv_at hl 2 rfl) ?_
          obtain ⟨q5, e5, hr⟩ := ob hr
          refine cal_v (run_V (As := [.int x2]) (rest := []) C hV hS (c_X9_doOrder l G b0 q3.2 x2 q5 e5) (rcv hK hV (kd_lt z_0 (by decide)) (cel_0 z_0) rfl) q_1231 q_1233 q_67 q_93 q_1234 dk_X9_doOrder (rmx_ok (by decide) (by decide)) hl.1 rfl (Nat.le_of_ble_eq_true rfl) dX9_run_107 ⟨Nat.zero_le _, Nat.zero_le _⟩) hS (fun H locs hV hS => ?_)
          refine lv_iinc (v := x2 + 1) (lv' := [(2, .int (x2 + 1)), (3, .int q3.1), (0, .ref (b0 + 0))]) hx hb dX9_run_110 hl (k := 2) rfl rfl (by decide) rfl (fun ls hl => ?_)
          refine lv_goto (tgt := 49) hx hb dX9_run_113 (by decide) ?_
          exact ih _ (x2 + 1) hr _ _ ls hV hS (lv_sub hl [2, 0] rfl)
        · have hr := ie b_4 hr
          refine lv_aload_n hx hb dX9_run_70 rfl (lv_at hl 1 rfl) ?_
          refine g_X9_0 C hV q_339 dX9_run_71 ?_
          refine lv_aload_n hx hb dX9_run_74 rfl (lv_at hl 1 rfl) ?_
          refine g_X9_1 C hV q_340 dX9_run_75 ?_
          obtain ⟨q6, e6, hr⟩ := ob hr
          refine cal_v (run_VN (As := [.ref (b0 + 18)]) (rest := []) C hV hS (c_X8_copyFrom l G b0 q3.2 1 z_1 18 z_18 q6 e6) (rcv hK hV (kd_lt z_1 (by decide)) (cel_1 z_1) rfl) q_1213 q_659 q_24 q_94 q_660 dk_X8_copyFrom (rmx_ok (by decide) (by decide)) hl.1 rfl (Nat.le_of_ble_eq_true rfl) dX9_run_78 ⟨Nat.zero_le _, Nat.zero_le _⟩) hS (fun H locs hV hS => ?_)
          refine lv_aload_n hx hb dX9_run_81 rfl (lv_at hl 1 rfl) ?_
          refine g_X9_8 C hV q_347 dX9_run_82 ?_
          refine lv_iload_n hx hb dX9_run_85 rfl (lv_at hl 2 rfl) ?_
          refine lv_iload_n hx hb dX9_run_86 rfl (lv_at hl 0 rfl) ?_
          refine lv_aload_n hx hb dX9_run_87 rfl (lv_at hl 1 rfl) ?_
          refine g_X9_9 C hV q_348 dX9_run_88 ?_
          obtain ⟨q7, e7, hr⟩ := ob hr
          refine cal_v (run_VN (As := [.int x2, .int q3.1, .int (q6 0 9)]) (rest := []) C hV hS (c_X6_keepOrder l G b0 q6 x2 q3.1 (q6 0 9) q7 e7) (rcv hK hV (kd_lt z_207 (by decide)) (cel_19 z_207) rfl) q_1226 q_1228 q_66 q_102 q_1229 dk_X6_keepOrder (rmx_ok (by decide) (by decide)) hl.1 rfl (Nat.le_of_ble_eq_true rfl) dX9_run_91 ⟨Nat.zero_le _, Nat.zero_le _⟩) hS (fun H locs hV hS => ?_)
          rw [← Option.some.inj hr]
          exact th_w0 (ik := 76) (is := 341) (ic := 80) C hfl ht hV hS hl.1 q_634 (st_29 hK) q_644 dX9_run_94 dX9_run_97 dX9_run_98 dX9_run_101 dX9_run_104 (Nat.le_of_ble_eq_true rfl) (Nat.le_of_ble_eq_true rfl)
  unfold f_X9_run at hr
  refine lv_aload_n hx hb dX9_run_0 rfl (lv_at hl 0 rfl) ?_
  refine g_X9_6 C hV q_345 dX9_run_1 ?_
  obtain ⟨q8, e8, hr⟩ := ob hr
  refine cal_i (run_VN (As := []) (rest := []) C hV hS (c_X7_findFault l G b0 V q8 e8) (rcv hK hV (kd_lt z_192 (by decide)) (cel_12 z_192) rfl) q_1158 q_1160 q_53 q_100 q_1161 dk_X7_findFault (rmx_ok (by decide) (by decide)) hl.1 rfl (Nat.le_of_ble_eq_true rfl) dX9_run_4 ⟨Nat.zero_le _, Nat.zero_le _⟩) hS (fun H locs hV hS => ?_)
  refine lv_istore_n (lv' := [(1, .int q8.1), (0, .ref (b0 + 0))]) hx hb dX9_run_7 rfl hl (by decide) rfl (fun ls hl => ?_)
  refine lv_aload_n hx hb dX9_run_8 rfl (lv_at hl 1 rfl) ?_
  refine g_X9_6 C hV q_345 dX9_run_9 ?_
  obtain ⟨q9, e9, hr⟩ := ob hr
  refine cal_v (run_VN (As := []) (rest := []) C hV hS (c_X7_clear l G b0 q8.2 q9 e9) (rcv hK hV (kd_lt z_192 (by decide)) (cel_12 z_192) rfl) q_1208 q_1210 q_62 q_100 q_1211 dk_X7_clear (rmx_ok (by decide) (by decide)) hl.1 rfl (Nat.le_of_ble_eq_true rfl) dX9_run_12 ⟨Nat.zero_le _, Nat.zero_le _⟩) hS (fun H locs hV hS => ?_)
  refine lv_iload_n hx hb dX9_run_15 rfl (lv_at hl 0 rfl) ?_
  refine lv_iconst (v := (-1)) hx hb dX9_run_16 (by decide) ?_
  refine lv_icmp_eq (tgt := 36) hx hb dX9_run_17 (by decide) (fun b_10 => ?_) (fun b_10 => ?_)
  · have hr := it b_10 hr
    refine lv_aload_n hx hb dX9_run_36 rfl (lv_at hl 1 rfl) ?_
    refine g_X9_1 C hV q_340 dX9_run_37 ?_
    refine lv_aload_n hx hb dX9_run_40 rfl (lv_at hl 1 rfl) ?_
    refine g_X9_0 C hV q_339 dX9_run_41 ?_
    obtain ⟨q11, e11, hr⟩ := ob hr
    refine cal_v (run_VN (As := [.ref (b0 + 1)]) (rest := []) C hV hS (c_X8_copyFrom l G b0 q9 18 z_18 1 z_1 q11 e11) (rcv hK hV (kd_lt z_18 (by decide)) (cel_1 z_18) rfl) q_1213 q_659 q_24 q_94 q_660 dk_X8_copyFrom (rmx_ok (by decide) (by decide)) hl.1 rfl (Nat.le_of_ble_eq_true rfl) dX9_run_44 ⟨Nat.zero_le _, Nat.zero_le _⟩) hS (fun H locs hV hS => ?_)
    refine lv_iconst (v := 0) hx hb dX9_run_47 (by decide) ?_
    refine lv_istore_n (lv' := [(2, .int 0), (1, .int q8.1), (0, .ref (b0 + 0))]) hx hb dX9_run_48 rfl hl (by decide) rfl (fun ls hl => ?_)
    exact K_49 500 _ 0 hr _ _ ls hV hS (lv_sub hl [2, 0] rfl)
  · have hr := ie b_10 hr
    refine lv_aload_n hx hb dX9_run_20 rfl (lv_at hl 1 rfl) ?_
    refine lv_iload_n hx hb dX9_run_21 rfl (lv_at hl 0 rfl) ?_
    refine p_X9_10 (x := q8.1) C hV hS q_349 dX9_run_22 (fun H locs hV hS => ?_)
    rw [← Option.some.inj hr]
    exact th_w3 (ik := 232) (is := 327) (ic := 236) C hfl ht hV hS hl.1 q_581 (st_28 hK) q_591 dX9_run_25 dX9_run_28 dX9_run_29 dX9_run_32 dX9_run_35 (Nat.le_of_ble_eq_true rfl) (Nat.le_of_ble_eq_true rfl)
set_option maxHeartbeats 4000000 in
set_option maxRecDepth 100000 in
theorem c_X9_line (l : Launch) (hfl : l.stackTraces = false) (G : LG) (b0 : Nat) (V : St) (x1 : Int32) (x2 : Int32) (res : (Except Nat Int32) × St) (hr : f_X9_line V x1 x2 = some res) : vx_Met l yX9_line (wy yX9_line cX9_line 3 (some .int)) (rmx 6) (va_Pc [.ref (b0 + 0), .int x1, .int x2] (Iv G b0 V)) (QIx G b0 res.1 res.2) (XX G b0 (xe res.1) res.2) 1 6 (Ab b0) := by
  refine mk_x (by decide +kernel) (Nat.le_of_ble_eq_true rfl) ?_
  intro p e s m below meth c C ht hV hS ls hl
  obtain ⟨args, hargs⟩ : ∃ z, z = ([.ref (b0 + 0), .int x1, .int x2] : List Value).toArray := ⟨_, rfl⟩
  rw [← hargs] at C ⊢
  obtain ⟨hx, hb, hrt, hml, hown, hts, hlocks, hK, hSv⟩ := id C
  have hl : lv_has ls 3 [(0, .ref (b0 + 0)), (1, .int x1), (2, .int x2)] := hl
  have K_16 : ∀ (V : St), f_X9_line_b16 V = some res → ∀ (H : Heap) (locs : List Loc) (ls : Array Slot), Hd G b0 V H → va_S (Ab b0) s.heap H locs → lv_has ls 3 [] → W p l e (rmx 6) s m args below meth c H locs 0 0 (vx_MQ below (QIx G b0 res.1 res.2) (XX G b0 (xe res.1) res.2) args s 1 6 (Ab b0)) (F0 m 16 ls []) := by
    intro V hr H locs ls hV hS hl
    unfold f_X9_line_b16 at hr
    rw [← Option.some.inj hr]
    exact th_w1 (ik := 193) (is := 364) (ic := 197) C hfl ht hV hS hl.1 q_470 (st_37 hK) q_480 dX9_line_16 dX9_line_19 dX9_line_20 dX9_line_23 dX9_line_26 (Nat.le_of_ble_eq_true rfl) (Nat.le_of_ble_eq_true rfl)
  have K_57 : ∀ (V : St) (x1 : Int32) (x2 : Int32), f_X9_line_b57 V x1 x2 = some res → ∀ (H : Heap) (locs : List Loc) (ls : Array Slot), Hd G b0 V H → va_S (Ab b0) s.heap H locs → lv_has ls 3 [(0, .ref (b0 + 0)), (1, .int x1), (2, .int x2)] → W p l e (rmx 6) s m args below meth c H locs 0 0 (vx_MQ below (QIx G b0 res.1 res.2) (XX G b0 (xe res.1) res.2) args s 1 6 (Ab b0)) (F0 m 57 ls []) := by
    intro V x1 x2 hr H locs ls hV hS hl
    unfold f_X9_line_b57 at hr
    refine lv_aload_n hx hb dX9_line_57 rfl (lv_at hl 0 rfl) ?_
    refine g_X9_0 C hV q_339 dX9_line_58 ?_
    refine lv_iload_n hx hb dX9_line_61 rfl (lv_at hl 1 rfl) ?_
    obtain ⟨q1, e1, hr⟩ := ob hr
    refine cal_r (run_VN (As := [.int x1]) (rest := []) C hV hS (c_X8_netNumbered l G b0 V 1 z_1 x1 q1 e1) (rcv hK hV (kd_lt z_1 (by decide)) (cel_1 z_1) rfl) q_483 q_485 q_1 q_94 q_486 dk_X8_netNumbered (rmx_ok (by decide) (by decide)) hl.1 rfl (Nat.le_of_ble_eq_true rfl) dX9_line_62 ⟨Nat.zero_le _, Nat.zero_le _⟩) hS (fun H locs hV hS => ?_)
    refine lv_iload_n hx hb dX9_line_65 rfl (lv_at hl 2 rfl) ?_
    refine lv_aload_n hx hb dX9_line_66 rfl (lv_at hl 0 rfl) ?_
    refine g_X9_7 C hV q_346 dX9_line_67 ?_
    obtain ⟨q2, e2, hr⟩ := ob hr
    refine cal_v (run_VN (As := [.int x2, .ref (b0 + 205)]) (rest := []) C hV hS (c_X3_writeLine l G b0 V q1 (kr_X8_netNumbered z_1 e1) x2 q2 e2) (rcv hK hV (kd_lt (kr_X8_netNumbered z_1 e1) (by decide)) (cel_5 (kr_X8_netNumbered z_1 e1)) rfl) q_1431 q_1433 q_81 q_95 q_1434 dk_X3_writeLine (rmx_ok (by decide) (by decide)) hl.1 rfl (Nat.le_of_ble_eq_true rfl) dX9_line_70 ⟨Nat.zero_le _, Nat.zero_le _⟩) hS (fun H locs hV hS => ?_)
    refine lv_aload_n hx hb dX9_line_73 rfl (lv_at hl 0 rfl) ?_
    refine g_X9_7 C hV q_346 dX9_line_74 ?_
    refine gn_X2_1 C hV q_314 dX9_line_77 ?_
    rw [← Option.some.inj hr]
    exact fin_ix C hV hS rfl dX9_line_80
  unfold f_X9_line at hr
  refine lv_iload_n hx hb dX9_line_0 rfl (lv_at hl 1 rfl) ?_
  obtain ⟨q3, e3, hr⟩ := ob hr
  refine cal_i (run_S (As := [.int x1]) (rest := []) C hV hS (c_X9_isNet l G b0 V x1 q3 e3) q_467 q_468 q_93 q_469 dk_X9_isNet (rmx_ok (by decide) (by decide)) hl.1 rfl (Nat.le_of_ble_eq_true rfl) dX9_line_1 ⟨Nat.zero_le _, Nat.zero_le _⟩) hS (fun H locs hV hS => ?_)
  refine lv_if_eq (tgt := 16) hx hb dX9_line_4 (by decide) (fun b_4 => ?_) (fun b_4 => ?_)
  · have hr := it b_4 hr
    exact K_16 _ hr _ _ ls hV hS (lv_sub hl [] rfl)
  · have hr := ie b_4 hr
    refine lv_iload_n hx hb dX9_line_7 rfl (lv_at hl 2 rfl) ?_
    refine lv_if_lt (tgt := 16) hx hb dX9_line_8 (by decide) (fun b_5 => ?_) (fun b_5 => ?_)
    · have hr := it b_5 hr
      exact K_16 _ hr _ _ ls hV hS (lv_sub hl [] rfl)
    · have hr := ie b_5 hr
      refine lv_iload_n hx hb dX9_line_11 rfl (lv_at hl 2 rfl) ?_
      refine lv_iconst (v := 4) hx hb dX9_line_12 (by decide) ?_
      refine lv_icmp_lt (tgt := 27) hx hb dX9_line_13 (by decide) (fun b_6 => ?_) (fun b_6 => ?_)
      · have hr := it b_6 hr
        refine lv_aload_n hx hb dX9_line_27 rfl (lv_at hl 0 rfl) ?_
        refine g_X9_7 C hV q_346 dX9_line_28 ?_
        obtain ⟨q7, e7, hr⟩ := ob hr
        refine cal_v (run_VN (As := []) (rest := []) C hV hS (c_X2_clear l G b0 V q7 e7) (rcv hK hV (kd_lt z_205 (by decide)) (cel_17 z_205) rfl) q_1310 q_1312 q_70 q_101 q_1313 dk_X2_clear (rmx_ok (by decide) (by decide)) hl.1 rfl (Nat.le_of_ble_eq_true rfl) dX9_line_31 ⟨Nat.zero_le _, Nat.zero_le _⟩) hS (fun H locs hV hS => ?_)
        refine lv_iload_n hx hb dX9_line_34 rfl (lv_at hl 2 rfl) ?_
        refine lv_iconst (v := 4) hx hb dX9_line_35 (by decide) ?_
        refine lv_aload_n hx hb dX9_line_36 rfl (lv_at hl 0 rfl) ?_
        refine g_X9_0 C hV q_339 dX9_line_37 ?_
        refine lv_iload_n hx hb dX9_line_40 rfl (lv_at hl 1 rfl) ?_
        obtain ⟨q8, e8, hr⟩ := ob hr
        refine cal_i (run_VN (As := [.int x1]) (rest := [.int 4, .int x2]) C hV hS (c_X8_linesUnderWater l G b0 q7 1 z_1 x1 q8 e8) (rcv hK hV (kd_lt z_1 (by decide)) (cel_1 z_1) rfl) q_806 q_791 q_43 q_94 q_792 dk_X8_linesUnderWater (rmx_ok (by decide) (by decide)) hl.1 rfl (Nat.le_of_ble_eq_true rfl) dX9_line_41 ⟨Nat.zero_le _, Nat.zero_le _⟩) hS (fun H locs hV hS => ?_)
        refine lv_isub hx hb dX9_line_44 ?_
        refine lv_icmp_lt (tgt := 57) hx hb dX9_line_45 (by decide) (fun b_9 => ?_) (fun b_9 => ?_)
        · have hr := it b_9 hr
          exact K_57 _ x1 x2 hr _ _ ls hV hS (lv_sub hl [0, 1, 2] rfl)
        · have hr := ie b_9 hr
          refine lv_aload_n hx hb dX9_line_48 rfl (lv_at hl 0 rfl) ?_
          refine g_X9_7 C hV q_346 dX9_line_49 ?_
          refine lv_bipush (v := 126) hx hb dX9_line_52 (by decide) ?_
          obtain ⟨q10, e10, hr⟩ := ob hr
          refine cal_v (run_VN (As := [.int 126]) (rest := []) C hV hS (c_X2_append l G b0 q7 126 q10 e10) (rcv hK hV (kd_lt z_205 (by decide)) (cel_17 z_205) rfl) q_1326 q_1324 q_72 q_101 q_1325 dk_X2_append (rmx_ok (by decide) (by decide)) hl.1 rfl (Nat.le_of_ble_eq_true rfl) dX9_line_54 ⟨Nat.zero_le _, Nat.zero_le _⟩) hS (fun H locs hV hS => ?_)
          exact K_57 _ x1 x2 hr _ _ ls hV hS (lv_sub hl [0, 1, 2] rfl)
      · have hr := ie b_6 hr
        exact K_16 _ hr _ _ ls hV hS (lv_sub hl [] rfl)
set_option maxHeartbeats 4000000 in
set_option maxRecDepth 100000 in
theorem c_X9_chapterLine (l : Launch) (hfl : l.stackTraces = false) (G : LG) (b0 : Nat) (V : St) (x1 : Int32) (x2 : Int32) (res : (Except Nat Int32) × St) (hr : f_X9_chapterLine V x1 x2 = some res) : vx_Met l yX9_chapterLine (wy yX9_chapterLine cX9_chapterLine 5 (some .int)) (rmx 6) (va_Pc [.ref (b0 + 0), .int x1, .int x2] (Iv G b0 V)) (QIx G b0 res.1 res.2) (XX G b0 (xe res.1) res.2) 1 6 (Ab b0) := by
  refine mk_x (by decide +kernel) (Nat.le_of_ble_eq_true rfl) ?_
  intro p e s m below meth c C ht hV hS ls hl
  obtain ⟨args, hargs⟩ : ∃ z, z = ([.ref (b0 + 0), .int x1, .int x2] : List Value).toArray := ⟨_, rfl⟩
  rw [← hargs] at C ⊢
  obtain ⟨hx, hb, hrt, hml, hown, hts, hlocks, hK, hSv⟩ := id C
  have hl : lv_has ls 5 [(0, .ref (b0 + 0)), (1, .int x1), (2, .int x2)] := hl
  have K_14 : ∀ (V : St), f_X9_chapterLine_b14 V = some res → ∀ (H : Heap) (locs : List Loc) (ls : Array Slot), Hd G b0 V H → va_S (Ab b0) s.heap H locs → lv_has ls 5 [] → W p l e (rmx 6) s m args below meth c H locs 0 0 (vx_MQ below (QIx G b0 res.1 res.2) (XX G b0 (xe res.1) res.2) args s 1 6 (Ab b0)) (F0 m 14 ls []) := by
    intro V hr H locs ls hV hS hl
    unfold f_X9_chapterLine_b14 at hr
    rw [← Option.some.inj hr]
    exact th_1 (ik := 193) (is := 195) (ic := 197) C hfl ht hV hS hl.1 q_470 (st_30 hK) q_480 dX9_chapterLine_14 dX9_chapterLine_17 dX9_chapterLine_18 dX9_chapterLine_20 dX9_chapterLine_23 (Nat.le_of_ble_eq_true rfl) (Nat.le_of_ble_eq_true rfl)
  unfold f_X9_chapterLine at hr
  refine lv_iload_n hx hb dX9_chapterLine_0 rfl (lv_at hl 1 rfl) ?_
  obtain ⟨q1, e1, hr⟩ := ob hr
  refine cal_i (run_S (As := [.int x1]) (rest := []) C hV hS (c_X9_isNet l G b0 V x1 q1 e1) q_467 q_468 q_93 q_469 dk_X9_isNet (rmx_ok (by decide) (by decide)) hl.1 rfl (Nat.le_of_ble_eq_true rfl) dX9_chapterLine_1 ⟨Nat.zero_le _, Nat.zero_le _⟩) hS (fun H locs hV hS => ?_)
  refine lv_if_eq (tgt := 14) hx hb dX9_chapterLine_4 (by decide) (fun b_2 => ?_) (fun b_2 => ?_)
  · have hr := it b_2 hr
    exact K_14 _ hr _ _ ls hV hS (lv_sub hl [] rfl)
  · have hr := ie b_2 hr
    refine lv_iload_n hx hb dX9_chapterLine_7 rfl (lv_at hl 2 rfl) ?_
    obtain ⟨q3, e3, hr⟩ := ob hr
    refine cal_i (run_S (As := [.int x2]) (rest := []) C hV hS (c_X9_isPlace l G b0 V x2 q3 e3) q_616 q_617 q_93 q_618 dk_X9_isPlace (rmx_ok (by decide) (by decide)) hl.1 rfl (Nat.le_of_ble_eq_true rfl) dX9_chapterLine_8 ⟨Nat.zero_le _, Nat.zero_le _⟩) hS (fun H locs hV hS => ?_)
    refine lv_if_ne (tgt := 24) hx hb dX9_chapterLine_11 (by decide) (fun b_4 => ?_) (fun b_4 => ?_)
    · have hr := ie b_4 hr
      refine lv_aload_n hx hb dX9_chapterLine_24 rfl (lv_at hl 0 rfl) ?_
      refine g_X9_0 C hV q_339 dX9_chapterLine_25 ?_
      refine lv_iload_n hx hb dX9_chapterLine_28 rfl (lv_at hl 1 rfl) ?_
      obtain ⟨q5, e5, hr⟩ := ob hr
      refine cal_r (run_VN (As := [.int x1]) (rest := []) C hV hS (c_X8_netNumbered l G b0 V 1 z_1 x1 q5 e5) (rcv hK hV (kd_lt z_1 (by decide)) (cel_1 z_1) rfl) q_483 q_485 q_1 q_94 q_486 dk_X8_netNumbered (rmx_ok (by decide) (by decide)) hl.1 rfl (Nat.le_of_ble_eq_true rfl) dX9_chapterLine_29 ⟨Nat.zero_le _, Nat.zero_le _⟩) hS (fun H locs hV hS => ?_)
      refine lv_astore_n (lv' := [(3, .ref (b0 + q5)), (0, .ref (b0 + 0)), (1, .int x1), (2, .int x2)]) hx hb dX9_chapterLine_32 rfl hl (by decide) rfl (fun ls hl => ?_)
      refine lv_aload_n hx hb dX9_chapterLine_33 rfl (lv_at hl 0 rfl) ?_
      refine lv_iload_n hx hb dX9_chapterLine_34 rfl (lv_at hl 3 rfl) ?_
      obtain ⟨q6, e6, hr⟩ := ob hr
      refine cal_i (run_VN (As := [.int x2]) (rest := []) C hV hS (c_X3_chapterAt l G b0 V q5 (kr_X8_netNumbered z_1 e5) x2 q6 e6) (rcv hK hV (kd_lt (kr_X8_netNumbered z_1 e5) (by decide)) (cel_5 (kr_X8_netNumbered z_1 e5)) rfl) q_818 q_507 q_4 q_95 q_508 dk_X3_chapterAt (rmx_ok (by decide) (by decide)) hl.1 rfl (Nat.le_of_ble_eq_true rfl) dX9_chapterLine_35 ⟨Nat.zero_le _, Nat.zero_le _⟩) hS (fun H locs hV hS => ?_)
      refine lv_istore (lv' := [(4, .int q6), (3, .ref (b0 + q5)), (0, .ref (b0 + 0)), (1, .int x1), (2, .int x2)]) hx hb dX9_chapterLine_38 hl (by decide) rfl (fun ls hl => ?_)
      refine lv_iload hx hb dX9_chapterLine_40 (lv_at hl 0 rfl) ?_
      refine lv_if_ne (tgt := 55) hx hb dX9_chapterLine_42 (by decide) (fun b_7 => ?_) (fun b_7 => ?_)
      · have hr := ie b_7 hr
        refine lv_aload_n hx hb dX9_chapterLine_55 rfl (lv_at hl 2 rfl) ?_
        refine g_X9_7 C hV q_346 dX9_chapterLine_56 ?_
        obtain ⟨q8, e8, hr⟩ := ob hr
        refine cal_v (run_VN (As := []) (rest := []) C hV hS (c_X2_clear l G b0 V q8 e8) (rcv hK hV (kd_lt z_205 (by decide)) (cel_17 z_205) rfl) q_1310 q_1312 q_70 q_101 q_1313 dk_X2_clear (rmx_ok (by decide) (by decide)) hl.1 rfl (Nat.le_of_ble_eq_true rfl) dX9_chapterLine_59 ⟨Nat.zero_le _, Nat.zero_le _⟩) hS (fun H locs hV hS => ?_)
        refine lv_aload_n hx hb dX9_chapterLine_62 rfl (lv_at hl 2 rfl) ?_
        refine g_X9_7 C hV q_346 dX9_chapterLine_63 ?_
        refine lv_aload_n hx hb dX9_chapterLine_66 rfl (lv_at hl 1 rfl) ?_
        refine gn_X3_0 (k := q5) C hV (kr_X8_netNumbered z_1 e5) q_153 dX9_chapterLine_67 ?_
        refine lv_iload hx hb dX9_chapterLine_70 (lv_at hl 0 rfl) ?_
        refine lv_iand hx hb dX9_chapterLine_72 ?_
        refine lv_aload_n hx hb dX9_chapterLine_73 rfl (lv_at hl 1 rfl) ?_
        refine gn_X3_1 (k := q5) C hV (kr_X8_netNumbered z_1 e5) q_157 dX9_chapterLine_74 ?_
        refine lv_iload hx hb dX9_chapterLine_77 (lv_at hl 0 rfl) ?_
        refine lv_iand hx hb dX9_chapterLine_79 ?_
        obtain ⟨q9, e9, hr⟩ := ob hr
        refine cal_v (run_VN (As := [.int ((q8 q5 0) &&& q6), .int ((q8 q5 1) &&& q6)]) (rest := []) C hV hS (c_X2_appendKnots l G b0 q8 ((q8 q5 0) &&& q6) ((q8 q5 1) &&& q6) q9 e9) (rcv hK hV (kd_lt z_205 (by decide)) (cel_17 z_205) rfl) q_1314 q_1316 q_71 q_101 q_1317 dk_X2_appendKnots (rmx_ok (by decide) (by decide)) hl.1 rfl (Nat.le_of_ble_eq_true rfl) dX9_chapterLine_80 ⟨Nat.zero_le _, Nat.zero_le _⟩) hS (fun H locs hV hS => ?_)
        refine lv_aload_n hx hb dX9_chapterLine_83 rfl (lv_at hl 2 rfl) ?_
        refine g_X9_7 C hV q_346 dX9_chapterLine_84 ?_
        refine gn_X2_1 C hV q_314 dX9_chapterLine_87 ?_
        rw [← Option.some.inj hr]
        exact fin_ix C hV hS rfl dX9_chapterLine_90
      · have hr := it b_7 hr
        rw [← Option.some.inj hr]
        exact th_2 (ik := 202) (is := 244) (ic := 206) C hfl ht hV hS hl.1 q_1273 (st_34 hK) q_1283 dX9_chapterLine_45 dX9_chapterLine_48 dX9_chapterLine_49 dX9_chapterLine_51 dX9_chapterLine_54 (Nat.le_of_ble_eq_true rfl) (Nat.le_of_ble_eq_true rfl)
    · have hr := it b_4 hr
      exact K_14 _ hr _ _ ls hV hS (lv_sub hl [] rfl)
set_option maxHeartbeats 4000000 in
set_option maxRecDepth 100000 in
theorem c_X9_noteLine (l : Launch) (hfl : l.stackTraces = false) (G : LG) (b0 : Nat) (V : St) (x1 : Int32) (res : (Except Nat Int32) × St) (hr : f_X9_noteLine V x1 = some res) : vx_Met l yX9_noteLine (wy yX9_noteLine cX9_noteLine 3 (some .int)) (rmx 6) (va_Pc [.ref (b0 + 0), .int x1] (Iv G b0 V)) (QIx G b0 res.1 res.2) (XX G b0 (xe res.1) res.2) 1 6 (Ab b0) := by
  refine mk_x (by decide +kernel) (Nat.le_of_ble_eq_true rfl) ?_
  intro p e s m below meth c C ht hV hS ls hl
  obtain ⟨args, hargs⟩ : ∃ z, z = ([.ref (b0 + 0), .int x1] : List Value).toArray := ⟨_, rfl⟩
  rw [← hargs] at C ⊢
  obtain ⟨hx, hb, hrt, hml, hown, hts, hlocks, hK, hSv⟩ := id C
  have hl : lv_has ls 3 [(0, .ref (b0 + 0)), (1, .int x1)] := hl
  unfold f_X9_noteLine at hr
  refine lv_aload_n hx hb dX9_noteLine_0 rfl (lv_at hl 0 rfl) ?_
  refine g_X9_0 C hV q_339 dX9_noteLine_1 ?_
  refine lv_iload_n hx hb dX9_noteLine_4 rfl (lv_at hl 1 rfl) ?_
  obtain ⟨q1, e1, hr⟩ := ob hr
  refine cal_i (run_VN (As := [.int x1]) (rest := []) C hV hS (c_X8_hasNote l G b0 V 1 z_1 x1 q1 e1) (rcv hK hV (kd_lt z_1 (by decide)) (cel_1 z_1) rfl) q_839 q_841 q_49 q_94 q_842 dk_X8_hasNote (rmx_ok (by decide) (by decide)) hl.1 rfl (Nat.le_of_ble_eq_true rfl) dX9_noteLine_5 ⟨Nat.zero_le _, Nat.zero_le _⟩) hS (fun H locs hV hS => ?_)
  refine lv_if_ne (tgt := 21) hx hb dX9_noteLine_8 (by decide) (fun b_2 => ?_) (fun b_2 => ?_)
  · have hr := ie b_2 hr
    refine lv_aload_n hx hb dX9_noteLine_21 rfl (lv_at hl 0 rfl) ?_
    refine g_X9_0 C hV q_339 dX9_noteLine_22 ?_
    refine lv_iload_n hx hb dX9_noteLine_25 rfl (lv_at hl 1 rfl) ?_
    obtain ⟨q3, e3, hr⟩ := ob hr
    refine cal_r (run_VN (As := [.int x1]) (rest := []) C hV hS (c_X8_noteNumbered l G b0 V 1 z_1 x1 q3 e3) (rcv hK hV (kd_lt z_1 (by decide)) (cel_1 z_1) rfl) q_1298 q_565 q_14 q_94 q_566 dk_X8_noteNumbered (rmx_ok (by decide) (by decide)) hl.1 rfl (Nat.le_of_ble_eq_true rfl) dX9_noteLine_26 ⟨Nat.zero_le _, Nat.zero_le _⟩) hS (fun H locs hV hS => ?_)
    refine lv_astore_n (lv' := [(2, .ref (b0 + q3)), (0, .ref (b0 + 0)), (1, .int x1)]) hx hb dX9_noteLine_29 rfl hl (by decide) rfl (fun ls hl => ?_)
    refine lv_aload_n hx hb dX9_noteLine_30 rfl (lv_at hl 1 rfl) ?_
    refine g_X9_7 C hV q_346 dX9_noteLine_31 ?_
    obtain ⟨q4, e4, hr⟩ := ob hr
    refine cal_v (run_VN (As := []) (rest := []) C hV hS (c_X2_clear l G b0 V q4 e4) (rcv hK hV (kd_lt z_205 (by decide)) (cel_17 z_205) rfl) q_1310 q_1312 q_70 q_101 q_1313 dk_X2_clear (rmx_ok (by decide) (by decide)) hl.1 rfl (Nat.le_of_ble_eq_true rfl) dX9_noteLine_34 ⟨Nat.zero_le _, Nat.zero_le _⟩) hS (fun H locs hV hS => ?_)
    refine lv_aload_n hx hb dX9_noteLine_37 rfl (lv_at hl 1 rfl) ?_
    refine g_X9_7 C hV q_346 dX9_noteLine_38 ?_
    refine lv_aload_n hx hb dX9_noteLine_41 rfl (lv_at hl 0 rfl) ?_
    refine gn_X4_1 (k := q3) C hV (kr_X8_noteNumbered z_1 e3) q_200 dX9_noteLine_42 ?_
    refine lv_aload_n hx hb dX9_noteLine_45 rfl (lv_at hl 0 rfl) ?_
    refine gn_X4_2 (k := q3) C hV (kr_X8_noteNumbered z_1 e3) q_203 dX9_noteLine_46 ?_
    obtain ⟨q5, e5, hr⟩ := ob hr
    refine cal_v (run_VN (As := [.int (q4 q3 1), .int (q4 q3 2)]) (rest := []) C hV hS (c_X2_appendKnots l G b0 q4 (q4 q3 1) (q4 q3 2) q5 e5) (rcv hK hV (kd_lt z_205 (by decide)) (cel_17 z_205) rfl) q_1314 q_1316 q_71 q_101 q_1317 dk_X2_appendKnots (rmx_ok (by decide) (by decide)) hl.1 rfl (Nat.le_of_ble_eq_true rfl) dX9_noteLine_49 ⟨Nat.zero_le _, Nat.zero_le _⟩) hS (fun H locs hV hS => ?_)
    refine lv_aload_n hx hb dX9_noteLine_52 rfl (lv_at hl 1 rfl) ?_
    refine g_X9_0 C hV q_339 dX9_noteLine_53 ?_
    refine lv_aload_n hx hb dX9_noteLine_56 rfl (lv_at hl 0 rfl) ?_
    obtain ⟨q6, e6, hr⟩ := ob hr
    refine cal_i (run_VN (As := [.ref (b0 + q3)]) (rest := []) C hV hS (c_X8_readsAsNoted l G b0 q5 1 z_1 q3 (kr_X8_noteNumbered z_1 e3) q6 e6) (rcv hK hV (kd_lt z_1 (by decide)) (cel_1 z_1) rfl) q_1301 q_569 q_15 q_94 q_570 dk_X8_readsAsNoted (rmx_ok (by decide) (by decide)) hl.1 rfl (Nat.le_of_ble_eq_true rfl) dX9_noteLine_57 ⟨Nat.zero_le _, Nat.zero_le _⟩) hS (fun H locs hV hS => ?_)
    refine lv_if_ne (tgt := 72) hx hb dX9_noteLine_60 (by decide) (fun b_7 => ?_) (fun b_7 => ?_)
    · have hr := ie b_7 hr
      refine lv_aload_n hx hb dX9_noteLine_72 rfl (lv_at hl 1 rfl) ?_
      refine g_X9_7 C hV q_346 dX9_noteLine_73 ?_
      refine gn_X2_1 C hV q_314 dX9_noteLine_76 ?_
      rw [← Option.some.inj hr]
      exact fin_ix C hV hS rfl dX9_noteLine_79
    · have hr := it b_7 hr
      refine lv_aload_n hx hb dX9_noteLine_63 rfl (lv_at hl 1 rfl) ?_
      refine g_X9_7 C hV q_346 dX9_noteLine_64 ?_
      refine lv_bipush (v := 33) hx hb dX9_noteLine_67 (by decide) ?_
      obtain ⟨q8, e8, hr⟩ := ob hr
      refine cal_v (run_VN (As := [.int 33]) (rest := []) C hV hS (c_X2_append l G b0 q5 33 q8 e8) (rcv hK hV (kd_lt z_205 (by decide)) (cel_17 z_205) rfl) q_1326 q_1324 q_72 q_101 q_1325 dk_X2_append (rmx_ok (by decide) (by decide)) hl.1 rfl (Nat.le_of_ble_eq_true rfl) dX9_noteLine_69 ⟨Nat.zero_le _, Nat.zero_le _⟩) hS (fun H locs hV hS => ?_)
      refine lv_aload_n hx hb dX9_noteLine_72 rfl (lv_at hl 1 rfl) ?_
      refine g_X9_7 C hV q_346 dX9_noteLine_73 ?_
      refine gn_X2_1 C hV q_314 dX9_noteLine_76 ?_
      rw [← Option.some.inj hr]
      exact fin_ix C hV hS rfl dX9_noteLine_79
  · have hr := it b_2 hr
    rw [← Option.some.inj hr]
    exact th_1 (ik := 193) (is := 255) (ic := 197) C hfl ht hV hS hl.1 q_470 (st_32 hK) q_480 dX9_noteLine_11 dX9_noteLine_14 dX9_noteLine_15 dX9_noteLine_17 dX9_noteLine_20 (Nat.le_of_ble_eq_true rfl) (Nat.le_of_ble_eq_true rfl)
set_option maxHeartbeats 4000000 in
set_option maxRecDepth 100000 in
theorem c_X9_meanKnots (l : Launch) (hfl : l.stackTraces = false) (G : LG) (b0 : Nat) (V : St) (res : Except Nat UInt64) (hr : f_X9_meanKnots V = some res) : vx_Met l yX9_meanKnots (wy yX9_meanKnots cX9_meanKnots 2 (some .double)) (rmx 6) (va_Pc [.ref (b0 + 0)] (Iv G b0 V)) (QDx G b0 res V) (XX G b0 (xe res) V) 1 6 (Ab b0) := by
  refine mk_x (by decide +kernel) (Nat.le_of_ble_eq_true rfl) ?_
  intro p e s m below meth c C ht hV hS ls hl
  obtain ⟨args, hargs⟩ : ∃ z, z = ([.ref (b0 + 0)] : List Value).toArray := ⟨_, rfl⟩
  rw [← hargs] at C ⊢
  obtain ⟨hx, hb, hrt, hml, hown, hts, hlocks, hK, hSv⟩ := id C
  have hl : lv_has ls 2 [(0, .ref (b0 + 0))] := hl
  unfold f_X9_meanKnots at hr
  refine lv_aload_n hx hb dX9_meanKnots_0 rfl (lv_at hl 0 rfl) ?_
  refine g_X9_0 C hV q_339 dX9_meanKnots_1 ?_
  obtain ⟨q1, e1, hr⟩ := ob hr
  refine cal_i (run_VN (As := []) (rest := []) C hV hS (c_X8_countAllChapters l G b0 V 1 z_1 q1 e1) (rcv hK hV (kd_lt z_1 (by decide)) (cel_1 z_1) rfl) q_537 q_539 q_8 q_94 q_540 dk_X8_countAllChapters (rmx_ok (by decide) (by decide)) hl.1 rfl (Nat.le_of_ble_eq_true rfl) dX9_meanKnots_4 ⟨Nat.zero_le _, Nat.zero_le _⟩) hS (fun H locs hV hS => ?_)
  refine lv_istore_n (lv' := [(1, .int q1), (0, .ref (b0 + 0))]) hx hb dX9_meanKnots_7 rfl hl (by decide) rfl (fun ls hl => ?_)
  refine lv_iload_n hx hb dX9_meanKnots_8 rfl (lv_at hl 0 rfl) ?_
  refine lv_if_ne (tgt := 23) hx hb dX9_meanKnots_9 (by decide) (fun b_2 => ?_) (fun b_2 => ?_)
  · have hr := ie b_2 hr
    refine lv_aload_n hx hb dX9_meanKnots_23 rfl (lv_at hl 1 rfl) ?_
    refine g_X9_0 C hV q_339 dX9_meanKnots_24 ?_
    obtain ⟨q3, e3, hr⟩ := ob hr
    refine cal_i (run_VN (As := []) (rest := []) C hV hS (c_X8_countKnots l G b0 V 1 z_1 q3 e3) (rcv hK hV (kd_lt z_1 (by decide)) (cel_1 z_1) rfl) q_530 q_532 q_7 q_94 q_533 dk_X8_countKnots (rmx_ok (by decide) (by decide)) hl.1 rfl (Nat.le_of_ble_eq_true rfl) dX9_meanKnots_27 ⟨Nat.zero_le _, Nat.zero_le _⟩) hS (fun H locs hV hS => ?_)
    refine lv_i2d hx hb dX9_meanKnots_30 ?_
    refine lv_iload_n hx hb dX9_meanKnots_31 rfl (lv_at hl 0 rfl) ?_
    refine lv_i2d hx hb dX9_meanKnots_32 ?_
    obtain ⟨q4, e4, hr⟩ := ob hr
    obtain ⟨e4, g4⟩ := dv_in e4
    refine lv_ddiv hx hb dX9_meanKnots_33 g4 ?_
    rw [← e4]
    rw [← Option.some.inj hr]
    exact fin_dx C hV hS rfl dX9_meanKnots_34
  · have hr := it b_2 hr
    rw [← Option.some.inj hr]
    exact th_w5 (ik := 396) (is := 398) (ic := 400) C hfl ht hV hS hl.1 q_1498 (st_39 hK) q_1500 dX9_meanKnots_12 dX9_meanKnots_15 dX9_meanKnots_16 dX9_meanKnots_19 dX9_meanKnots_22 (Nat.le_of_ble_eq_true rfl) (Nat.le_of_ble_eq_true rfl)
set_option maxHeartbeats 4000000 in
set_option maxRecDepth 100000 in
theorem c_X9_readShare (l : Launch) (hfl : l.stackTraces = false) (G : LG) (b0 : Nat) (V : St) (res : Except Nat UInt32) (hr : f_X9_readShare V = some res) : vx_Met l yX9_readShare (wy yX9_readShare cX9_readShare 2 (some .float)) (rmx 6) (va_Pc [.ref (b0 + 0)] (Iv G b0 V)) (QFx G b0 res V) (XX G b0 (xe res) V) 1 6 (Ab b0) := by
  refine mk_x (by decide +kernel) (Nat.le_of_ble_eq_true rfl) ?_
  intro p e s m below meth c C ht hV hS ls hl
  obtain ⟨args, hargs⟩ : ∃ z, z = ([.ref (b0 + 0)] : List Value).toArray := ⟨_, rfl⟩
  rw [← hargs] at C ⊢
  obtain ⟨hx, hb, hrt, hml, hown, hts, hlocks, hK, hSv⟩ := id C
  have hl : lv_has ls 2 [(0, .ref (b0 + 0))] := hl
  unfold f_X9_readShare at hr
  refine lv_aload_n hx hb dX9_readShare_0 rfl (lv_at hl 0 rfl) ?_
  refine g_X9_0 C hV q_339 dX9_readShare_1 ?_
  obtain ⟨q1, e1, hr⟩ := ob hr
  refine cal_i (run_VN (As := []) (rest := []) C hV hS (c_X8_countKnots l G b0 V 1 z_1 q1 e1) (rcv hK hV (kd_lt z_1 (by decide)) (cel_1 z_1) rfl) q_530 q_532 q_7 q_94 q_533 dk_X8_countKnots (rmx_ok (by decide) (by decide)) hl.1 rfl (Nat.le_of_ble_eq_true rfl) dX9_readShare_4 ⟨Nat.zero_le _, Nat.zero_le _⟩) hS (fun H locs hV hS => ?_)
  refine lv_istore_n (lv' := [(1, .int q1), (0, .ref (b0 + 0))]) hx hb dX9_readShare_7 rfl hl (by decide) rfl (fun ls hl => ?_)
  refine lv_iload_n hx hb dX9_readShare_8 rfl (lv_at hl 0 rfl) ?_
  refine lv_if_ne (tgt := 23) hx hb dX9_readShare_9 (by decide) (fun b_2 => ?_) (fun b_2 => ?_)
  · have hr := ie b_2 hr
    refine lv_aload_n hx hb dX9_readShare_23 rfl (lv_at hl 1 rfl) ?_
    refine g_X9_0 C hV q_339 dX9_readShare_24 ?_
    obtain ⟨q3, e3, hr⟩ := ob hr
    refine cal_i (run_VN (As := []) (rest := []) C hV hS (c_X8_countReadable l G b0 V 1 z_1 q3 e3) (rcv hK hV (kd_lt z_1 (by decide)) (cel_1 z_1) rfl) q_781 q_783 q_41 q_94 q_784 dk_X8_countReadable (rmx_ok (by decide) (by decide)) hl.1 rfl (Nat.le_of_ble_eq_true rfl) dX9_readShare_27 ⟨Nat.zero_le _, Nat.zero_le _⟩) hS (fun H locs hV hS => ?_)
    refine lv_i2f hx hb dX9_readShare_30 ?_
    refine lv_iload_n hx hb dX9_readShare_31 rfl (lv_at hl 0 rfl) ?_
    refine lv_i2f hx hb dX9_readShare_32 ?_
    obtain ⟨q4, e4, hr⟩ := ob hr
    obtain ⟨e4, g4⟩ := fv_in e4
    refine lv_fdiv hx hb dX9_readShare_33 g4 ?_
    rw [← e4]
    rw [← Option.some.inj hr]
    exact fin_fx C hV hS rfl dX9_readShare_34
  · have hr := it b_2 hr
    rw [← Option.some.inj hr]
    exact th_w5 (ik := 396) (is := 404) (ic := 400) C hfl ht hV hS hl.1 q_1498 (st_40 hK) q_1500 dX9_readShare_12 dX9_readShare_15 dX9_readShare_16 dX9_readShare_19 dX9_readShare_22 (Nat.le_of_ble_eq_true rfl) (Nat.le_of_ble_eq_true rfl)
