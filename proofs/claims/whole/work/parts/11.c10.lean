set_option maxHeartbeats 4000000 in
set_option maxRecDepth 100000 in
theorem c_X9_character (l : Launch) (hfl : l.stackTraces = false) (G : LG) (b0 : Nat) (V : St) (x1 : Int32) (res : Except Nat Int32) (hr : f_X9_character V x1 = some res) : vx_Met l yX9_character (wy yX9_character cX9_character 2 (some .char)) (rmx 6) (va_Pc [.ref (b0 + 0), .int x1] (Iv G b0 V)) (QIx G b0 res V) (XX G b0 (xe res) V) 1 6 (Ab b0) := by
  refine mk_x (by decide +kernel) (Nat.le_of_ble_eq_true rfl) ?_
  intro p e s m below meth c C ht hV hS ls hl
  obtain ⟨args, hargs⟩ : ∃ z, z = ([.ref (b0 + 0), .int x1] : List Value).toArray := ⟨_, rfl⟩
  rw [← hargs] at C ⊢
  obtain ⟨hx, hb, hrt, hml, hown, hts, hlocks, hK, hSv⟩ := id C
  have hl : lv_has ls 2 [(0, .ref (b0 + 0)), (1, .int x1)] := hl
  unfold f_X9_character at hr
  refine lv_aload_n hx hb dX9_character_0 rfl (lv_at hl 0 rfl) ?_
  refine g_X9_7 C hV q_393 dX9_character_1 ?_
  refine lv_iload_n hx hb dX9_character_4 rfl (lv_at hl 1 rfl) ?_
  obtain ⟨q1, e1, hr⟩ := ob hr
  refine cal_i (run_VN (As := [.int x1]) (rest := []) C hV hS (c_X2_hasIndex l G b0 V x1 q1 e1) (rcv hK hV (kd_lt z_205 (by decide)) (cel_17 z_205) rfl) q_1298 q_1300 q_87 q_149 q_1301 dk_X2_hasIndex (rmx_ok (by decide) (by decide)) hl.1 rfl (Nat.le_of_ble_eq_true rfl) dX9_character_5 ⟨Nat.zero_le _, Nat.zero_le _⟩) hS (fun H locs hV hS => ?_)
  refine lv_if_ne (tgt := 22) hx hb dX9_character_8 (by decide) (fun b_2 => ?_) (fun b_2 => ?_)
  · have hr := ie b_2 hr
    refine lv_aload_n hx hb dX9_character_22 rfl (lv_at hl 0 rfl) ?_
    refine g_X9_7 C hV q_393 dX9_character_23 ?_
    refine lv_iload_n hx hb dX9_character_26 rfl (lv_at hl 1 rfl) ?_
    obtain ⟨q3, e3, hr⟩ := ob hr
    refine cal_i (run_VN (As := [.int x1]) (rest := []) C hV hS (c_X2_at l G b0 V x1 q3 e3) (rcv hK hV (kd_lt z_205 (by decide)) (cel_17 z_205) rfl) q_1303 q_1305 q_88 q_149 q_1306 dk_X2_at (rmx_ok (by decide) (by decide)) hl.1 rfl (Nat.le_of_ble_eq_true rfl) dX9_character_27 ⟨Nat.zero_le _, Nat.zero_le _⟩) hS (fun H locs hV hS => ?_)
    obtain ⟨q4, e4, hr⟩ := ob hr
    rw [← Option.some.inj hr]
    exact fin_cx C hV hS (nr_in e4).2 rfl dX9_character_30
  · have hr := it b_2 hr
    rw [← Option.some.inj hr]
    exact th_w1 (ik := 193) (is := 387) (ic := 197) C hfl ht hV hS hl.1 q_893 (st_33 hK) q_903 dX9_character_11 dX9_character_14 dX9_character_15 dX9_character_18 dX9_character_21 (Nat.le_of_ble_eq_true rfl) (Nat.le_of_ble_eq_true rfl)
set_option maxHeartbeats 4000000 in
set_option maxRecDepth 100000 in
theorem c_X9_meanKnots (l : Launch) (hfl : l.stackTraces = false) (G : LG) (b0 : Nat) (V : St) (res : Except Nat UInt64) (hr : f_X9_meanKnots V = some res) : vx_Met l yX9_meanKnots (wy yX9_meanKnots cX9_meanKnots 2 (some .double)) (rmx 6) (va_Pc [.ref (b0 + 0)] (Iv G b0 V)) (QDx G b0 res V) (XX G b0 (xe res) V) 1 6 (Ab b0) := by
  refine mk_x (by decide +kernel) (Nat.le_of_ble_eq_true rfl) ?_
  intro p e s m below meth c C ht hV hS ls hl
  obtain ⟨args, hargs⟩ : ∃ z, z = ([.ref (b0 + 0)] : List Value).toArray := ⟨_, rfl⟩
  rw [← hargs] at C ⊢
  obtain ⟨hx, hb, hrt, hml, hown, hts, hlocks, hK, hSv⟩ := id C
  have hl : lv_has ls 2 [(0, .ref (b0 + 0))] := hl
  unfold f_X9_meanKnots at hr
  refine lv_aload_n hx hb dX9_meanKnots_0 rfl (lv_at hl 0 rfl) ?_
  refine g_X9_0 C hV q_386 dX9_meanKnots_1 ?_
  obtain ⟨q1, e1, hr⟩ := ob hr
  refine cal_i (run_VN (As := []) (rest := []) C hV hS (c_X8_countAllChapters l G b0 V 1 z_1 q1 e1) (rcv hK hV (kd_lt z_1 (by decide)) (cel_1 z_1) rfl) q_1329 q_482 q_9 q_142 q_483 dk_X8_countAllChapters (rmx_ok (by decide) (by decide)) hl.1 rfl (Nat.le_of_ble_eq_true rfl) dX9_meanKnots_4 ⟨Nat.zero_le _, Nat.zero_le _⟩) hS (fun H locs hV hS => ?_)
  refine lv_istore_n (lv' := [(1, .int q1), (0, .ref (b0 + 0))]) hx hb dX9_meanKnots_7 rfl hl (by decide) rfl (fun ls hl => ?_)
  refine lv_iload_n hx hb dX9_meanKnots_8 rfl (lv_at hl 0 rfl) ?_
  refine lv_if_ne (tgt := 23) hx hb dX9_meanKnots_9 (by decide) (fun b_2 => ?_) (fun b_2 => ?_)
  · have hr := ie b_2 hr
    refine lv_aload_n hx hb dX9_meanKnots_23 rfl (lv_at hl 1 rfl) ?_
    refine g_X9_0 C hV q_386 dX9_meanKnots_24 ?_
    obtain ⟨q3, e3, hr⟩ := ob hr
    refine cal_i (run_VN (As := []) (rest := []) C hV hS (c_X8_countKnots l G b0 V 1 z_1 q3 e3) (rcv hK hV (kd_lt z_1 (by decide)) (cel_1 z_1) rfl) q_1333 q_1335 q_89 q_142 q_1336 dk_X8_countKnots (rmx_ok (by decide) (by decide)) hl.1 rfl (Nat.le_of_ble_eq_true rfl) dX9_meanKnots_27 ⟨Nat.zero_le _, Nat.zero_le _⟩) hS (fun H locs hV hS => ?_)
    refine lv_i2d hx hb dX9_meanKnots_30 ?_
    refine lv_iload_n hx hb dX9_meanKnots_31 rfl (lv_at hl 0 rfl) ?_
    refine lv_i2d hx hb dX9_meanKnots_32 ?_
    obtain ⟨q4, e4, hr⟩ := ob hr
    obtain ⟨e4, g4⟩ := dv_in e4
    refine lv_ddiv hx hb dX9_meanKnots_33 g4 ?_
    rw [← e4]
    rw [← Option.some.inj hr]
    exact fin_dx C hV hS rfl dX9_meanKnots_34
  · have hr := it b_2 hr
    rw [← Option.some.inj hr]
    exact th_w5 (ik := 396) (is := 398) (ic := 400) C hfl ht hV hS hl.1 q_1330 (st_34 hK) q_1332 dX9_meanKnots_12 dX9_meanKnots_15 dX9_meanKnots_16 dX9_meanKnots_19 dX9_meanKnots_22 (Nat.le_of_ble_eq_true rfl) (Nat.le_of_ble_eq_true rfl)
set_option maxHeartbeats 4000000 in
set_option maxRecDepth 100000 in
theorem c_X9_readShare (l : Launch) (hfl : l.stackTraces = false) (G : LG) (b0 : Nat) (V : St) (res : Except Nat UInt32) (hr : f_X9_readShare V = some res) : vx_Met l yX9_readShare (wy yX9_readShare cX9_readShare 2 (some .float)) (rmx 6) (va_Pc [.ref (b0 + 0)] (Iv G b0 V)) (QFx G b0 res V) (XX G b0 (xe res) V) 1 6 (Ab b0) := by
  refine mk_x (by decide +kernel) (Nat.le_of_ble_eq_true rfl) ?_
  intro p e s m below meth c C ht hV hS ls hl
  obtain ⟨args, hargs⟩ : ∃ z, z = ([.ref (b0 + 0)] : List Value).toArray := ⟨_, rfl⟩
  rw [← hargs] at C ⊢
  obtain ⟨hx, hb, hrt, hml, hown, hts, hlocks, hK, hSv⟩ := id C
  have hl : lv_has ls 2 [(0, .ref (b0 + 0))] := hl
  unfold f_X9_readShare at hr
  refine lv_aload_n hx hb dX9_readShare_0 rfl (lv_at hl 0 rfl) ?_
  refine g_X9_0 C hV q_386 dX9_readShare_1 ?_
  obtain ⟨q1, e1, hr⟩ := ob hr
  refine cal_i (run_VN (As := []) (rest := []) C hV hS (c_X8_countKnots l G b0 V 1 z_1 q1 e1) (rcv hK hV (kd_lt z_1 (by decide)) (cel_1 z_1) rfl) q_1333 q_1335 q_89 q_142 q_1336 dk_X8_countKnots (rmx_ok (by decide) (by decide)) hl.1 rfl (Nat.le_of_ble_eq_true rfl) dX9_readShare_4 ⟨Nat.zero_le _, Nat.zero_le _⟩) hS (fun H locs hV hS => ?_)
  refine lv_istore_n (lv' := [(1, .int q1), (0, .ref (b0 + 0))]) hx hb dX9_readShare_7 rfl hl (by decide) rfl (fun ls hl => ?_)
  refine lv_iload_n hx hb dX9_readShare_8 rfl (lv_at hl 0 rfl) ?_
  refine lv_if_ne (tgt := 23) hx hb dX9_readShare_9 (by decide) (fun b_2 => ?_) (fun b_2 => ?_)
  · have hr := ie b_2 hr
    refine lv_aload_n hx hb dX9_readShare_23 rfl (lv_at hl 1 rfl) ?_
    refine g_X9_0 C hV q_386 dX9_readShare_24 ?_
    obtain ⟨q3, e3, hr⟩ := ob hr
    refine cal_i (run_VN (As := []) (rest := []) C hV hS (c_X8_countReadable l G b0 V 1 z_1 q3 e3) (rcv hK hV (kd_lt z_1 (by decide)) (cel_1 z_1) rfl) q_792 q_794 q_49 q_142 q_795 dk_X8_countReadable (rmx_ok (by decide) (by decide)) hl.1 rfl (Nat.le_of_ble_eq_true rfl) dX9_readShare_27 ⟨Nat.zero_le _, Nat.zero_le _⟩) hS (fun H locs hV hS => ?_)
    refine lv_i2f hx hb dX9_readShare_30 ?_
    refine lv_iload_n hx hb dX9_readShare_31 rfl (lv_at hl 0 rfl) ?_
    refine lv_i2f hx hb dX9_readShare_32 ?_
    obtain ⟨q4, e4, hr⟩ := ob hr
    obtain ⟨e4, g4⟩ := fv_in e4
    refine lv_fdiv hx hb dX9_readShare_33 g4 ?_
    rw [← e4]
    rw [← Option.some.inj hr]
    exact fin_fx C hV hS rfl dX9_readShare_34
  · have hr := it b_2 hr
    rw [← Option.some.inj hr]
    exact th_w5 (ik := 396) (is := 404) (ic := 400) C hfl ht hV hS hl.1 q_1330 (st_35 hK) q_1332 dX9_readShare_12 dX9_readShare_15 dX9_readShare_16 dX9_readShare_19 dX9_readShare_22 (Nat.le_of_ble_eq_true rfl) (Nat.le_of_ble_eq_true rfl)
set_option maxHeartbeats 4000000 in
set_option maxRecDepth 100000 in
theorem c_X9_account (l : Launch) (hfl : l.stackTraces = false) (G : LG) (b0 : Nat) (V : St) (x1 : Int32) (res : Except Nat Int32) (hr : f_X9_account V x1 = some res) : vx_Met l yX9_account (wy yX9_account cX9_account 2 (some .int)) (rmx 6) (va_Pc [.ref (b0 + 0), .int x1] (Iv G b0 V)) (QIx G b0 res V) (XX G b0 (xe res) V) 1 6 (Ab b0) := by
  refine mk_x (by decide +kernel) (Nat.le_of_ble_eq_true rfl) ?_
  intro p e s m below meth c C ht hV hS ls hl
  obtain ⟨args, hargs⟩ : ∃ z, z = ([.ref (b0 + 0), .int x1] : List Value).toArray := ⟨_, rfl⟩
  rw [← hargs] at C ⊢
  obtain ⟨hx, hb, hrt, hml, hown, hts, hlocks, hK, hSv⟩ := id C
  have hl : lv_has ls 2 [(0, .ref (b0 + 0)), (1, .int x1)] := hl
  unfold f_X9_account at hr
  refine lv_iload_n hx hb dX9_account_0 rfl (lv_at hl 1 rfl) ?_
  by_cases b_1 : x1 = 0
  · have hr := it b_1 hr
    refine lv_tableIn (off := 67) (tgt := 68) hx hb dX9_account_1 (by rw [b_1]; decide) (by rw [b_1]; decide) (by rw [b_1]; decide +kernel) (by decide) ?_
    refine lv_aload_n hx hb dX9_account_68 rfl (lv_at hl 0 rfl) ?_
    refine g_X9_0 C hV q_386 dX9_account_69 ?_
    obtain ⟨q2, e2, hr⟩ := ob hr
    refine cal_i (run_VN (As := []) (rest := []) C hV hS (c_X8_countKnots l G b0 V 1 z_1 q2 e2) (rcv hK hV (kd_lt z_1 (by decide)) (cel_1 z_1) rfl) q_1333 q_1335 q_89 q_142 q_1336 dk_X8_countKnots (rmx_ok (by decide) (by decide)) hl.1 rfl (Nat.le_of_ble_eq_true rfl) dX9_account_72 ⟨Nat.zero_le _, Nat.zero_le _⟩) hS (fun H locs hV hS => ?_)
    rw [← Option.some.inj hr]
    exact fin_ix C hV hS rfl dX9_account_75
  have hr := ie b_1 hr
  by_cases b_3 : x1 = 1
  · have hr := it b_3 hr
    refine lv_tableIn (off := 75) (tgt := 76) hx hb dX9_account_1 (by rw [b_3]; decide) (by rw [b_3]; decide) (by rw [b_3]; decide +kernel) (by decide) ?_
    refine lv_aload_n hx hb dX9_account_76 rfl (lv_at hl 0 rfl) ?_
    refine g_X9_0 C hV q_386 dX9_account_77 ?_
    obtain ⟨q4, e4, hr⟩ := ob hr
    refine cal_i (run_VN (As := []) (rest := []) C hV hS (c_X8_countAllChapters l G b0 V 1 z_1 q4 e4) (rcv hK hV (kd_lt z_1 (by decide)) (cel_1 z_1) rfl) q_1329 q_482 q_9 q_142 q_483 dk_X8_countAllChapters (rmx_ok (by decide) (by decide)) hl.1 rfl (Nat.le_of_ble_eq_true rfl) dX9_account_80 ⟨Nat.zero_le _, Nat.zero_le _⟩) hS (fun H locs hV hS => ?_)
    rw [← Option.some.inj hr]
    exact fin_ix C hV hS rfl dX9_account_83
  have hr := ie b_3 hr
  by_cases b_5 : x1 = 2
  · have hr := it b_5 hr
    refine lv_tableIn (off := 83) (tgt := 84) hx hb dX9_account_1 (by rw [b_5]; decide) (by rw [b_5]; decide) (by rw [b_5]; decide +kernel) (by decide) ?_
    refine lv_aload_n hx hb dX9_account_84 rfl (lv_at hl 0 rfl) ?_
    refine g_X9_0 C hV q_386 dX9_account_85 ?_
    obtain ⟨q6, e6, hr⟩ := ob hr
    refine cal_i (run_VN (As := []) (rest := []) C hV hS (c_X8_countTorn l G b0 V 1 z_1 q6 e6) (rcv hK hV (kd_lt z_1 (by decide)) (cel_1 z_1) rfl) q_539 q_541 q_22 q_142 q_542 dk_X8_countTorn (rmx_ok (by decide) (by decide)) hl.1 rfl (Nat.le_of_ble_eq_true rfl) dX9_account_88 ⟨Nat.zero_le _, Nat.zero_le _⟩) hS (fun H locs hV hS => ?_)
    rw [← Option.some.inj hr]
    exact fin_ix C hV hS rfl dX9_account_91
  have hr := ie b_5 hr
  by_cases b_7 : x1 = 3
  · have hr := it b_7 hr
    refine lv_tableIn (off := 91) (tgt := 92) hx hb dX9_account_1 (by rw [b_7]; decide) (by rw [b_7]; decide) (by rw [b_7]; decide +kernel) (by decide) ?_
    refine lv_aload_n hx hb dX9_account_92 rfl (lv_at hl 0 rfl) ?_
    refine g_X9_0 C hV q_386 dX9_account_93 ?_
    refine gn_X8_3 (k := 1) C hV z_1 q_258 dX9_account_96 ?_
    rw [← Option.some.inj hr]
    exact fin_ix C hV hS rfl dX9_account_99
  have hr := ie b_7 hr
  by_cases b_8 : x1 = 4
  · have hr := it b_8 hr
    refine lv_tableIn (off := 99) (tgt := 100) hx hb dX9_account_1 (by rw [b_8]; decide) (by rw [b_8]; decide) (by rw [b_8]; decide +kernel) (by decide) ?_
    refine lv_aload_n hx hb dX9_account_100 rfl (lv_at hl 0 rfl) ?_
    refine g_X9_0 C hV q_386 dX9_account_101 ?_
    obtain ⟨q9, e9, hr⟩ := ob hr
    refine cal_i (run_VN (As := []) (rest := []) C hV hS (c_X8_sumTwine l G b0 V 1 z_1 q9 e9) (rcv hK hV (kd_lt z_1 (by decide)) (cel_1 z_1) rfl) q_1352 q_1354 q_90 q_142 q_1355 dk_X8_sumTwine (rmx_ok (by decide) (by decide)) hl.1 rfl (Nat.le_of_ble_eq_true rfl) dX9_account_104 ⟨Nat.zero_le _, Nat.zero_le _⟩) hS (fun H locs hV hS => ?_)
    rw [← Option.some.inj hr]
    exact fin_ix C hV hS rfl dX9_account_107
  have hr := ie b_8 hr
  by_cases b_10 : x1 = 5
  · have hr := it b_10 hr
    refine lv_tableIn (off := 107) (tgt := 108) hx hb dX9_account_1 (by rw [b_10]; decide) (by rw [b_10]; decide) (by rw [b_10]; decide +kernel) (by decide) ?_
    refine lv_aload_n hx hb dX9_account_108 rfl (lv_at hl 0 rfl) ?_
    refine g_X9_0 C hV q_386 dX9_account_109 ?_
    refine gn_X8_4 (k := 1) C hV z_1 q_260 dX9_account_112 ?_
    rw [← Option.some.inj hr]
    exact fin_ix C hV hS rfl dX9_account_115
  have hr := ie b_10 hr
  by_cases b_11 : x1 = 6
  · have hr := it b_11 hr
    refine lv_tableIn (off := 115) (tgt := 116) hx hb dX9_account_1 (by rw [b_11]; decide) (by rw [b_11]; decide) (by rw [b_11]; decide +kernel) (by decide) ?_
    refine lv_aload_n hx hb dX9_account_116 rfl (lv_at hl 0 rfl) ?_
    refine g_X9_0 C hV q_386 dX9_account_117 ?_
    obtain ⟨q12, e12, hr⟩ := ob hr
    refine cal_i (run_VN (As := []) (rest := []) C hV hS (c_X8_countAsNoted l G b0 V 1 z_1 q12 e12) (rcv hK hV (kd_lt z_1 (by decide)) (cel_1 z_1) rfl) q_1356 q_1358 q_91 q_142 q_1359 dk_X8_countAsNoted (rmx_ok (by decide) (by decide)) hl.1 rfl (Nat.le_of_ble_eq_true rfl) dX9_account_120 ⟨Nat.zero_le _, Nat.zero_le _⟩) hS (fun H locs hV hS => ?_)
    rw [← Option.some.inj hr]
    exact fin_ix C hV hS rfl dX9_account_123
  have hr := ie b_11 hr
  by_cases b_13 : x1 = 7
  · have hr := it b_13 hr
    refine lv_tableIn (off := 123) (tgt := 124) hx hb dX9_account_1 (by rw [b_13]; decide) (by rw [b_13]; decide) (by rw [b_13]; decide +kernel) (by decide) ?_
    refine lv_aload_n hx hb dX9_account_124 rfl (lv_at hl 0 rfl) ?_
    refine g_X9_0 C hV q_386 dX9_account_125 ?_
    refine gn_X8_5 (k := 1) C hV z_1 q_262 dX9_account_128 ?_
    rw [← Option.some.inj hr]
    exact fin_ix C hV hS rfl dX9_account_131
  have hr := ie b_13 hr
  by_cases b_14 : x1 = 8
  · have hr := it b_14 hr
    refine lv_tableIn (off := 131) (tgt := 132) hx hb dX9_account_1 (by rw [b_14]; decide) (by rw [b_14]; decide) (by rw [b_14]; decide +kernel) (by decide) ?_
    refine lv_aload_n hx hb dX9_account_132 rfl (lv_at hl 0 rfl) ?_
    refine g_X9_0 C hV q_386 dX9_account_133 ?_
    refine gn_X8_6 (k := 1) C hV z_1 q_264 dX9_account_136 ?_
    rw [← Option.some.inj hr]
    exact fin_ix C hV hS rfl dX9_account_139
  have hr := ie b_14 hr
  by_cases b_15 : x1 = 9
  · have hr := it b_15 hr
    refine lv_tableIn (off := 139) (tgt := 140) hx hb dX9_account_1 (by rw [b_15]; decide) (by rw [b_15]; decide) (by rw [b_15]; decide +kernel) (by decide) ?_
    refine lv_aload_n hx hb dX9_account_140 rfl (lv_at hl 0 rfl) ?_
    refine g_X9_0 C hV q_386 dX9_account_141 ?_
    refine gn_X8_7 (k := 1) C hV z_1 q_266 dX9_account_144 ?_
    rw [← Option.some.inj hr]
    exact fin_ix C hV hS rfl dX9_account_147
  have hr := ie b_15 hr
  by_cases b_16 : x1 = 10
  · have hr := it b_16 hr
    refine lv_tableIn (off := 147) (tgt := 148) hx hb dX9_account_1 (by rw [b_16]; decide) (by rw [b_16]; decide) (by rw [b_16]; decide +kernel) (by decide) ?_
    refine lv_aload_n hx hb dX9_account_148 rfl (lv_at hl 0 rfl) ?_
    refine g_X9_0 C hV q_386 dX9_account_149 ?_
    refine gn_X8_8 (k := 1) C hV z_1 q_268 dX9_account_152 ?_
    rw [← Option.some.inj hr]
    exact fin_ix C hV hS rfl dX9_account_155
  have hr := ie b_16 hr
  by_cases b_17 : x1 = 11
  · have hr := it b_17 hr
    refine lv_tableIn (off := 155) (tgt := 156) hx hb dX9_account_1 (by rw [b_17]; decide) (by rw [b_17]; decide) (by rw [b_17]; decide +kernel) (by decide) ?_
    refine lv_aload_n hx hb dX9_account_156 rfl (lv_at hl 0 rfl) ?_
    refine g_X9_6 C hV q_392 dX9_account_157 ?_
    refine gn_X7_1 C hV q_329 dX9_account_160 ?_
    rw [← Option.some.inj hr]
    exact fin_ix C hV hS rfl dX9_account_163
  have hr := ie b_17 hr
  by_cases b_18 : x1 = 12
  · have hr := it b_18 hr
    refine lv_tableIn (off := 163) (tgt := 164) hx hb dX9_account_1 (by rw [b_18]; decide) (by rw [b_18]; decide) (by rw [b_18]; decide +kernel) (by decide) ?_
    refine lv_aload_n hx hb dX9_account_164 rfl (lv_at hl 0 rfl) ?_
    refine g_X9_4 C hV q_390 dX9_account_165 ?_
    refine gn_X1_2 C hV q_300 dX9_account_168 ?_
    rw [← Option.some.inj hr]
    exact fin_ix C hV hS rfl dX9_account_171
  have hr := ie b_18 hr
  have n_1 := lv_neT (a := 0) b_1 (by decide)
  have n_3 := lv_neT (a := 1) b_3 (by decide)
  have n_5 := lv_neT (a := 2) b_5 (by decide)
  have n_7 := lv_neT (a := 3) b_7 (by decide)
  have n_8 := lv_neT (a := 4) b_8 (by decide)
  have n_10 := lv_neT (a := 5) b_10 (by decide)
  have n_11 := lv_neT (a := 6) b_11 (by decide)
  have n_13 := lv_neT (a := 7) b_13 (by decide)
  have n_14 := lv_neT (a := 8) b_14 (by decide)
  have n_15 := lv_neT (a := 9) b_15 (by decide)
  have n_16 := lv_neT (a := 10) b_16 (by decide)
  have n_17 := lv_neT (a := 11) b_17 (by decide)
  have n_18 := lv_neT (a := 12) b_18 (by decide)
  refine lv_tableOut (tgt := 172) hx hb dX9_account_1 (by omega) (by decide) ?_
  rw [← Option.some.inj hr]
  exact th_3 (ik := 232) (is := 234) (ic := 236) C hfl ht hV hS hl.1 q_950 (st_11 hK) q_960 dX9_account_172 dX9_account_175 dX9_account_176 dX9_account_178 dX9_account_181 (Nat.le_of_ble_eq_true rfl) (Nat.le_of_ble_eq_true rfl)
set_option maxHeartbeats 4000000 in
set_option maxRecDepth 100000 in
theorem c_X9_isBalanced (l : Launch) (G : LG) (b0 : Nat) (V : St) (res : Int32 × St) (hr : f_X9_isBalanced V = some res) : Met l yX9_isBalanced (wy yX9_isBalanced cX9_isBalanced 1 (some .boolean)) (rm 6) (va_Pc [.ref (b0 + 0)] (Iv G b0 V)) (QI G b0 res.1 res.2) 0 0 (Ab b0) := by
  refine mk_m (by decide +kernel) (Nat.le_of_ble_eq_true rfl) ?_
  intro p e s m below meth c C hV hS ls hl
  obtain ⟨args, hargs⟩ : ∃ z, z = ([.ref (b0 + 0)] : List Value).toArray := ⟨_, rfl⟩
  rw [← hargs] at C ⊢
  obtain ⟨hx, hb, hrt, hml, hown, hts, hlocks, hK, hSv⟩ := id C
  have hl : lv_has ls 1 [(0, .ref (b0 + 0))] := hl
  unfold f_X9_isBalanced at hr
  refine lv_aload_n hx hb dX9_isBalanced_0 rfl (lv_at hl 0 rfl) ?_
  refine g_X9_0 C hV q_386 dX9_isBalanced_1 ?_
  refine lv_aload_n hx hb dX9_isBalanced_4 rfl (lv_at hl 0 rfl) ?_
  refine g_X9_5 C hV q_391 dX9_isBalanced_5 ?_
  obtain ⟨q1, e1, hr⟩ := ob hr
  refine cal_i (run_VN (As := [.ref (b0 + 190)]) (rest := []) C hV hS (c_X8_areChaptersToldAlike l G b0 V 1 z_1 q1 e1) (rcv hK hV (kd_lt z_1 (by decide)) (cel_1 z_1) rfl) q_424 q_426 q_0 q_142 q_427 dk_X8_areChaptersToldAlike (rm_ok (by decide) (by decide)) hl.1 rfl (Nat.le_of_ble_eq_true rfl) dX9_isBalanced_8 ⟨Nat.zero_le _, Nat.zero_le _⟩) hS (fun H locs hV hS => ?_)
  refine lv_if_eq (tgt := 57) hx hb dX9_isBalanced_11 (by decide) (fun b_2 => ?_) (fun b_2 => ?_)
  · have hr := it b_2 hr
    refine lv_iconst (v := 0) hx hb dX9_isBalanced_57 (by decide) ?_
    rw [← Option.some.inj hr]
    exact fin_z C hV hS (by decide) rfl dX9_isBalanced_58
  · have hr := ie b_2 hr
    refine lv_aload_n hx hb dX9_isBalanced_14 rfl (lv_at hl 0 rfl) ?_
    refine g_X9_0 C hV q_386 dX9_isBalanced_15 ?_
    refine lv_aload_n hx hb dX9_isBalanced_18 rfl (lv_at hl 0 rfl) ?_
    refine g_X9_5 C hV q_391 dX9_isBalanced_19 ?_
    obtain ⟨q3, e3, hr⟩ := ob hr
    refine cal_i (run_VN (As := [.ref (b0 + 190)]) (rest := []) C hV hS (c_X8_areNotesToldAlike l G b0 q1.2 1 z_1 q3 e3) (rcv hK hV (kd_lt z_1 (by decide)) (cel_1 z_1) rfl) q_499 q_501 q_12 q_142 q_502 dk_X8_areNotesToldAlike (rm_ok (by decide) (by decide)) hl.1 rfl (Nat.le_of_ble_eq_true rfl) dX9_isBalanced_22 ⟨Nat.zero_le _, Nat.zero_le _⟩) hS (fun H locs hV hS => ?_)
    refine lv_if_eq (tgt := 57) hx hb dX9_isBalanced_25 (by decide) (fun b_4 => ?_) (fun b_4 => ?_)
    · have hr := it b_4 hr
      refine lv_iconst (v := 0) hx hb dX9_isBalanced_57 (by decide) ?_
      rw [← Option.some.inj hr]
      exact fin_z C hV hS (by decide) rfl dX9_isBalanced_58
    · have hr := ie b_4 hr
      refine lv_aload_n hx hb dX9_isBalanced_28 rfl (lv_at hl 0 rfl) ?_
      refine g_X9_0 C hV q_386 dX9_isBalanced_29 ?_
      refine gn_X8_6 (k := 1) C hV z_1 q_264 dX9_isBalanced_32 ?_
      refine lv_aload_n hx hb dX9_isBalanced_35 rfl (lv_at hl 0 rfl) ?_
      refine g_X9_0 C hV q_386 dX9_isBalanced_36 ?_
      obtain ⟨q5, e5, hr⟩ := ob hr
      refine cal_i (run_VN (As := []) (rest := [.int (q3.2 1 6)]) C hV hS (c_X8_countTorn l G b0 q3.2 1 z_1 q5 e5) (rcv hK hV (kd_lt z_1 (by decide)) (cel_1 z_1) rfl) q_539 q_541 q_22 q_142 q_542 dk_X8_countTorn (rm_ok (by decide) (by decide)) hl.1 rfl (Nat.le_of_ble_eq_true rfl) dX9_isBalanced_39 ⟨Nat.zero_le _, Nat.zero_le _⟩) hS (fun H locs hV hS => ?_)
      refine lv_aload_n hx hb dX9_isBalanced_42 rfl (lv_at hl 0 rfl) ?_
      refine g_X9_0 C hV q_386 dX9_isBalanced_43 ?_
      refine gn_X8_7 (k := 1) C hV z_1 q_266 dX9_isBalanced_46 ?_
      refine lv_iadd hx hb dX9_isBalanced_49 ?_
      refine lv_icmp_ne (tgt := 57) hx hb dX9_isBalanced_50 (by decide) (fun b_6 => ?_) (fun b_6 => ?_)
      · have hr := ie b_6 hr
        refine lv_iconst (v := 0) hx hb dX9_isBalanced_57 (by decide) ?_
        rw [← Option.some.inj hr]
        exact fin_z C hV hS (by decide) rfl dX9_isBalanced_58
      · have hr := it b_6 hr
        refine lv_iconst (v := 1) hx hb dX9_isBalanced_53 (by decide) ?_
        refine lv_goto (tgt := 58) hx hb dX9_isBalanced_54 (by decide) ?_
        rw [← Option.some.inj hr]
        exact fin_z C hV hS (by decide) rfl dX9_isBalanced_58
set_option maxHeartbeats 4000000 in
set_option maxRecDepth 100000 in
theorem c_X9_undo (l : Launch) (hfl : l.stackTraces = false) (G : LG) (b0 : Nat) (V : St) (res : (Except Nat Int32) × St) (hr : f_X9_undo V = some res) : vx_Met l yX9_undo (wy yX9_undo cX9_undo 1 (some .int)) (rmx 6) (va_Pc [.ref (b0 + 0)] (Iv G b0 V)) (QIx G b0 res.1 res.2) (XX G b0 (xe res.1) res.2) 1 6 (Ab b0) := by
  refine mk_x (by decide +kernel) (Nat.le_of_ble_eq_true rfl) ?_
  intro p e s m below meth c C ht hV hS ls hl
  obtain ⟨args, hargs⟩ : ∃ z, z = ([.ref (b0 + 0)] : List Value).toArray := ⟨_, rfl⟩
  rw [← hargs] at C ⊢
  obtain ⟨hx, hb, hrt, hml, hown, hts, hlocks, hK, hSv⟩ := id C
  have hl : lv_has ls 1 [(0, .ref (b0 + 0))] := hl
  unfold f_X9_undo at hr
  refine lv_aload_n hx hb dX9_undo_0 rfl (lv_at hl 0 rfl) ?_
  refine g_X9_4 C hV q_390 dX9_undo_1 ?_
  refine gn_X1_2 C hV q_300 dX9_undo_4 ?_
  refine lv_if_ne (tgt := 21) hx hb dX9_undo_7 (by decide) (fun b_1 => ?_) (fun b_1 => ?_)
  · have hr := ie b_1 hr
    refine lv_aload_n hx hb dX9_undo_21 rfl (lv_at hl 0 rfl) ?_
    refine g_X9_4 C hV q_390 dX9_undo_22 ?_
    refine lv_aload_n hx hb dX9_undo_25 rfl (lv_at hl 0 rfl) ?_
    refine g_X9_0 C hV q_386 dX9_undo_26 ?_
    obtain ⟨q2, e2, hr⟩ := ob hr
    refine cal_v (run_VN (As := [.ref (b0 + 1)]) (rest := []) C hV hS (c_X1_popInto l G b0 V 1 z_1 q2 e2) (rcv hK hV (kd_lt z_52 (by decide)) (cel_8 z_52) rfl) q_1369 q_1371 q_92 q_146 q_1372 dk_X1_popInto (rmx_ok (by decide) (by decide)) hl.1 rfl (Nat.le_of_ble_eq_true rfl) dX9_undo_29 ⟨Nat.zero_le _, Nat.zero_le _⟩) hS (fun H locs hV hS => ?_)
    refine lv_aload_n hx hb dX9_undo_32 rfl (lv_at hl 0 rfl) ?_
    refine g_X9_4 C hV q_390 dX9_undo_33 ?_
    refine gn_X1_2 C hV q_300 dX9_undo_36 ?_
    rw [← Option.some.inj hr]
    exact fin_ix C hV hS rfl dX9_undo_39
  · have hr := it b_1 hr
    rw [← Option.some.inj hr]
    exact th_w4 (ik := 309) (is := 432) (ic := 313) C hfl ht hV hS hl.1 q_1079 (st_36 hK) q_1089 dX9_undo_10 dX9_undo_13 dX9_undo_14 dX9_undo_17 dX9_undo_20 (Nat.le_of_ble_eq_true rfl) (Nat.le_of_ble_eq_true rfl)
set_option maxHeartbeats 4000000 in
set_option maxRecDepth 100000 in
theorem c_X9_save (l : Launch) (G : LG) (b0 : Nat) (V : St) (res : Int32 × St) (hr : f_X9_save V = some res) : Met l yX9_save (wy yX9_save cX9_save 1 (some .int)) (rm 2) (va_Pc [.ref (b0 + 0)] (Iv G b0 V)) (QI G b0 res.1 res.2) 0 0 (Ab b0) := by
  refine mk_m (by decide +kernel) (Nat.le_of_ble_eq_true rfl) ?_
  intro p e s m below meth c C hV hS ls hl
  obtain ⟨args, hargs⟩ : ∃ z, z = ([.ref (b0 + 0)] : List Value).toArray := ⟨_, rfl⟩
  rw [← hargs] at C ⊢
  obtain ⟨hx, hb, hrt, hml, hown, hts, hlocks, hK, hSv⟩ := id C
  have hl : lv_has ls 1 [(0, .ref (b0 + 0))] := hl
  unfold f_X9_save at hr
  refine lv_aload_n hx hb dX9_save_0 rfl (lv_at hl 0 rfl) ?_
  refine g_X9_2 C hV q_388 dX9_save_1 ?_
  refine lv_aload_n hx hb dX9_save_4 rfl (lv_at hl 0 rfl) ?_
  refine g_X9_0 C hV q_386 dX9_save_5 ?_
  obtain ⟨q1, e1, hr⟩ := ob hr
  refine cal_v (run_VN (As := [.ref (b0 + 1)]) (rest := []) C hV hS (c_X8_copyFrom l G b0 V 35 z_35 1 z_1 q1 e1) (rcv hK hV (kd_lt z_35 (by decide)) (cel_1 z_35) rfl) q_551 q_553 q_24 q_142 q_554 dk_X8_copyFrom (rm_ok (by decide) (by decide)) hl.1 rfl (Nat.le_of_ble_eq_true rfl) dX9_save_8 ⟨Nat.zero_le _, Nat.zero_le _⟩) hS (fun H locs hV hS => ?_)
  refine lv_aload_n hx hb dX9_save_11 rfl (lv_at hl 0 rfl) ?_
  refine lv_iconst (v := 1) hx hb dX9_save_12 (by decide) ?_
  refine p_X9_3 (x := 1) C hV hS q_389 (by decide) dX9_save_13 (fun H locs hV hS => ?_)
  refine lv_aload_n hx hb dX9_save_16 rfl (lv_at hl 0 rfl) ?_
  refine g_X9_2 C hV q_388 dX9_save_17 ?_
  refine gn_X8_4 (k := 35) C hV z_35 q_260 dX9_save_20 ?_
  rw [← Option.some.inj hr]
  exact fin_i C hV hS rfl dX9_save_23
set_option maxHeartbeats 4000000 in
set_option maxRecDepth 100000 in
theorem c_X9_restore (l : Launch) (hfl : l.stackTraces = false) (G : LG) (b0 : Nat) (V : St) (res : (Except Nat Int32) × St) (hr : f_X9_restore V = some res) : vx_Met l yX9_restore (wy yX9_restore cX9_restore 1 (some .int)) (rmx 6) (va_Pc [.ref (b0 + 0)] (Iv G b0 V)) (QIx G b0 res.1 res.2) (XX G b0 (xe res.1) res.2) 1 6 (Ab b0) := by
  refine mk_x (by decide +kernel) (Nat.le_of_ble_eq_true rfl) ?_
  intro p e s m below meth c C ht hV hS ls hl
  obtain ⟨args, hargs⟩ : ∃ z, z = ([.ref (b0 + 0)] : List Value).toArray := ⟨_, rfl⟩
  rw [← hargs] at C ⊢
  obtain ⟨hx, hb, hrt, hml, hown, hts, hlocks, hK, hSv⟩ := id C
  have hl : lv_has ls 1 [(0, .ref (b0 + 0))] := hl
  unfold f_X9_restore at hr
  refine lv_aload_n hx hb dX9_restore_0 rfl (lv_at hl 0 rfl) ?_
  refine g_X9_3 C hV q_389 dX9_restore_1 ?_
  refine lv_if_ne (tgt := 18) hx hb dX9_restore_4 (by decide) (fun b_1 => ?_) (fun b_1 => ?_)
  · have hr := ie b_1 hr
    refine lv_aload_n hx hb dX9_restore_18 rfl (lv_at hl 0 rfl) ?_
    refine g_X9_0 C hV q_386 dX9_restore_19 ?_
    refine lv_aload_n hx hb dX9_restore_22 rfl (lv_at hl 0 rfl) ?_
    refine g_X9_2 C hV q_388 dX9_restore_23 ?_
    obtain ⟨q2, e2, hr⟩ := ob hr
    refine cal_v (run_VN (As := [.ref (b0 + 35)]) (rest := []) C hV hS (c_X8_copyFrom l G b0 V 1 z_1 35 z_35 q2 e2) (rcv hK hV (kd_lt z_1 (by decide)) (cel_1 z_1) rfl) q_551 q_553 q_24 q_142 q_554 dk_X8_copyFrom (rmx_ok (by decide) (by decide)) hl.1 rfl (Nat.le_of_ble_eq_true rfl) dX9_restore_26 ⟨Nat.zero_le _, Nat.zero_le _⟩) hS (fun H locs hV hS => ?_)
    refine lv_aload_n hx hb dX9_restore_29 rfl (lv_at hl 0 rfl) ?_
    refine g_X9_4 C hV q_390 dX9_restore_30 ?_
    obtain ⟨q3, e3, hr⟩ := ob hr
    refine cal_v (run_VN (As := []) (rest := []) C hV hS (c_X1_clear l G b0 q2 q3 e3) (rcv hK hV (kd_lt z_52 (by decide)) (cel_8 z_52) rfl) q_1381 q_1383 q_93 q_146 q_1384 dk_X1_clear (rmx_ok (by decide) (by decide)) hl.1 rfl (Nat.le_of_ble_eq_true rfl) dX9_restore_33 ⟨Nat.zero_le _, Nat.zero_le _⟩) hS (fun H locs hV hS => ?_)
    refine lv_aload_n hx hb dX9_restore_36 rfl (lv_at hl 0 rfl) ?_
    refine g_X9_0 C hV q_386 dX9_restore_37 ?_
    refine gn_X8_4 (k := 1) C hV z_1 q_260 dX9_restore_40 ?_
    rw [← Option.some.inj hr]
    exact fin_ix C hV hS rfl dX9_restore_43
  · have hr := it b_1 hr
    rw [← Option.some.inj hr]
    exact th_w4 (ik := 309) (is := 437) (ic := 313) C hfl ht hV hS hl.1 q_1079 (st_37 hK) q_1089 dX9_restore_7 dX9_restore_10 dX9_restore_11 dX9_restore_14 dX9_restore_17 (Nat.le_of_ble_eq_true rfl) (Nat.le_of_ble_eq_true rfl)
set_option maxHeartbeats 4000000 in
set_option maxRecDepth 100000 in
theorem c_X10_thrown (l : Launch) (G : LG) (b0 : Nat) (V : St) (res : Int32) (hr : f_X10_thrown V = some res) : Met l yX10_thrown (wy yX10_thrown cX10_thrown 1 (some .int)) (rm 0) (va_Pc [.ref (b0 + 208)] (Iv G b0 V)) (QI G b0 res V) 0 0 (Ab b0) := by
  refine mk_m (by decide +kernel) (Nat.le_of_ble_eq_true rfl) ?_
  intro p e s m below meth c C hV hS ls hl
  obtain ⟨args, hargs⟩ : ∃ z, z = ([.ref (b0 + 208)] : List Value).toArray := ⟨_, rfl⟩
  rw [← hargs] at C ⊢
  obtain ⟨hx, hb, hrt, hml, hown, hts, hlocks, hK, hSv⟩ := id C
  have hl : lv_has ls 1 [(0, .ref (b0 + 208))] := hl
  unfold f_X10_thrown at hr
  refine lv_aload_n hx hb dX10_thrown_0 rfl (lv_at hl 0 rfl) ?_
  refine g_X10_0 C hV q_1391 dX10_thrown_1 ?_
  exact fin_i C hV hS (Option.some.inj hr) dX10_thrown_4
set_option maxHeartbeats 4000000 in
set_option maxRecDepth 100000 in
theorem c_X10_fails (l : Launch) (G : LG) (b0 : Nat) (V : St) (x1 : Int32) (res : Int32 × St) (hr : f_X10_fails V x1 = some res) : Met l yX10_fails (wy yX10_fails cX10_fails 2 (some .int)) (rm 0) (va_Pc [.ref (b0 + 208), .int x1] (Iv G b0 V)) (QI G b0 res.1 res.2) 0 0 (Ab b0) := by
  refine mk_m (by decide +kernel) (Nat.le_of_ble_eq_true rfl) ?_
  intro p e s m below meth c C hV hS ls hl
  obtain ⟨args, hargs⟩ : ∃ z, z = ([.ref (b0 + 208), .int x1] : List Value).toArray := ⟨_, rfl⟩
  rw [← hargs] at C ⊢
  obtain ⟨hx, hb, hrt, hml, hown, hts, hlocks, hK, hSv⟩ := id C
  have hl : lv_has ls 2 [(0, .ref (b0 + 208)), (1, .int x1)] := hl
  unfold f_X10_fails at hr
  refine lv_aload_n hx hb dX10_fails_0 rfl (lv_at hl 0 rfl) ?_
  refine lv_iload_n hx hb dX10_fails_1 rfl (lv_at hl 1 rfl) ?_
  refine p_X10_0 (x := x1) C hV hS q_1391 dX10_fails_2 (fun H locs hV hS => ?_)
  refine lv_iconst (v := 0) hx hb dX10_fails_5 (by decide) ?_
  rw [← Option.some.inj hr]
  exact fin_i C hV hS rfl dX10_fails_6
set_option maxHeartbeats 4000000 in
set_option maxRecDepth 100000 in
theorem c_X10_in (l : Launch) (G : LG) (b0 : Nat) (V : St) (x0 : Int32) (x1 : Int32) (x2 : Int32) (res : Int32) (hr : f_X10_in x0 x1 x2 = some res) : Met l yX10_in (wy yX10_in cX10_in 3 (some .boolean)) (rm 0) (va_Pc [.int x0, .int x1, .int x2] (Iv G b0 V)) (QI G b0 res V) 0 0 (Ab b0) := by
  refine mk_m (by decide +kernel) (Nat.le_of_ble_eq_true rfl) ?_
  intro p e s m below meth c C hV hS ls hl
  obtain ⟨args, hargs⟩ : ∃ z, z = ([.int x0, .int x1, .int x2] : List Value).toArray := ⟨_, rfl⟩
  rw [← hargs] at C ⊢
  obtain ⟨hx, hb, hrt, hml, hown, hts, hlocks, hK, hSv⟩ := id C
  have hl : lv_has ls 3 [(0, .int x0), (1, .int x1), (2, .int x2)] := hl
  unfold f_X10_in at hr
  refine lv_iload_n hx hb dX10_in_0 rfl (lv_at hl 0 rfl) ?_
  refine lv_iload_n hx hb dX10_in_1 rfl (lv_at hl 1 rfl) ?_
  refine lv_icmp_lt (tgt := 14) hx hb dX10_in_2 (by decide) (fun b_1 => ?_) (fun b_1 => ?_)
  · have hr := it b_1 hr
    refine lv_iconst (v := 0) hx hb dX10_in_14 (by decide) ?_
    exact fin_z C hV hS (by decide) (Option.some.inj hr) dX10_in_15
  · have hr := ie b_1 hr
    refine lv_iload_n hx hb dX10_in_5 rfl (lv_at hl 0 rfl) ?_
    refine lv_iload_n hx hb dX10_in_6 rfl (lv_at hl 2 rfl) ?_
    refine lv_icmp_gt (tgt := 14) hx hb dX10_in_7 (by decide) (fun b_2 => ?_) (fun b_2 => ?_)
    · have hr := it b_2 hr
      refine lv_iconst (v := 0) hx hb dX10_in_14 (by decide) ?_
      exact fin_z C hV hS (by decide) (Option.some.inj hr) dX10_in_15
    · have hr := ie b_2 hr
      refine lv_iconst (v := 1) hx hb dX10_in_10 (by decide) ?_
      refine lv_goto (tgt := 15) hx hb dX10_in_11 (by decide) ?_
      exact fin_z C hV hS (by decide) (Option.some.inj hr) dX10_in_15
set_option maxHeartbeats 4000000 in
set_option maxRecDepth 100000 in
theorem c_X10_remembers (l : Launch) (G : LG) (b0 : Nat) (V : St) (res : St) (hr : f_X10_remembers V = some res) : Met l yX10_remembers (wy yX10_remembers cX10_remembers 2 none) (rm 0) (va_Pc [.ref (b0 + 208)] (Iv G b0 V)) (QV G b0 res) 0 0 (Ab b0) := by
  refine mk_m (by decide +kernel) (Nat.le_of_ble_eq_true rfl) ?_
  intro p e s m below meth c C hV hS ls hl
  obtain ⟨args, hargs⟩ : ∃ z, z = ([.ref (b0 + 208)] : List Value).toArray := ⟨_, rfl⟩
  rw [← hargs] at C ⊢
  obtain ⟨hx, hb, hrt, hml, hown, hts, hlocks, hK, hSv⟩ := id C
  have hl : lv_has ls 2 [(0, .ref (b0 + 208))] := hl
  have K_7 : ∀ (n : Nat) (V : St) (x1 : Int32), f_X10_remembers_b7 n V x1 = some res → ∀ (H : Heap) (locs : List Loc) (ls : Array Slot), Hd G b0 V H → va_S (Ab b0) s.heap H locs → lv_has ls 2 [(0, .ref (b0 + 208)), (1, .int x1)] → W p l e (rm 0) s m args below meth c H locs 0 0 (MQ below (QV G b0 res) args s 0 0 (Ab b0)) (F0 m 7 ls []) := by
    intro  n
    induction n with
    | zero =>
      intro V x1 hr
      rw [f_X10_remembers_b7] at hr
      cases hr
    | succ n ih =>
      intro V x1 hr H locs ls hV hS hl
      rw [f_X10_remembers_b7] at hr
      refine lv_iload_n hx hb dX10_remembers_7 rfl (lv_at hl 1 rfl) ?_
      refine lv_bipush (v := 53) hx hb dX10_remembers_8 (by decide) ?_
      refine lv_icmp_ge (tgt := 31) hx hb dX10_remembers_10 (by decide) (fun b_1 => ?_) (fun b_1 => ?_)
      · have hr := it b_1 hr
        exact fin_v C hV hS (Option.some.inj hr) dX10_remembers_31
      · have hr := ie b_1 hr
        refine lv_aload_n hx hb dX10_remembers_13 rfl (lv_at hl 0 rfl) ?_
        refine g_X10_2 C hV q_1393 dX10_remembers_14 ?_
        refine lv_iload_n hx hb dX10_remembers_17 rfl (lv_at hl 1 rfl) ?_
        refine lv_aload_n hx hb dX10_remembers_18 rfl (lv_at hl 0 rfl) ?_
        refine g_X10_1 C hV q_1392 dX10_remembers_19 ?_
        refine lv_iload_n hx hb dX10_remembers_22 rfl (lv_at hl 1 rfl) ?_
        obtain ⟨j2, e2, hr⟩ := ob hr
        refine a_21 (k := 209) (i := x1) (j := j2) C hV z_209 e2 dX10_remembers_23 ?_
        obtain ⟨j3, e3, hr⟩ := ob hr
        refine s_22 (k := 210) (i := x1) (j := j3) (x := (V 209 j2)) C hV hS z_210 e3 dX10_remembers_24 (fun H locs hV hS => ?_)
        refine lv_iinc (v := x1 + 1) (lv' := [(1, .int (x1 + 1)), (0, .ref (b0 + 208))]) hx hb dX10_remembers_25 hl (k := 1) rfl rfl (by decide) rfl (fun ls hl => ?_)
        refine lv_goto (tgt := 7) hx hb dX10_remembers_28 (by decide) ?_
        exact ih _ (x1 + 1) hr _ _ ls hV hS (lv_sub hl [1, 0] rfl)
  unfold f_X10_remembers at hr
  refine lv_aload_n hx hb dX10_remembers_0 rfl (lv_at hl 0 rfl) ?_
  refine lv_iconst (v := 0) hx hb dX10_remembers_1 (by decide) ?_
  refine p_X10_0 (x := 0) C hV hS q_1391 dX10_remembers_2 (fun H locs hV hS => ?_)
  refine lv_iconst (v := 0) hx hb dX10_remembers_5 (by decide) ?_
  refine lv_istore_n (lv' := [(1, .int 0), (0, .ref (b0 + 208))]) hx hb dX10_remembers_6 rfl hl (by decide) rfl (fun ls hl => ?_)
  exact K_7 500 _ 0 hr _ _ ls hV hS (lv_sub hl [1, 0] rfl)
set_option maxHeartbeats 4000000 in
set_option maxRecDepth 100000 in
theorem c_X10_changed (l : Launch) (G : LG) (b0 : Nat) (V : St) (x1 : Int32) (res : Int32 × St) (hr : f_X10_changed V x1 = some res) : Met l yX10_changed (wy yX10_changed cX10_changed 3 (some .int)) (rm 0) (va_Pc [.ref (b0 + 208), .int x1] (Iv G b0 V)) (QI G b0 res.1 res.2) 0 0 (Ab b0) := by
  refine mk_m (by decide +kernel) (Nat.le_of_ble_eq_true rfl) ?_
  intro p e s m below meth c C hV hS ls hl
  obtain ⟨args, hargs⟩ : ∃ z, z = ([.ref (b0 + 208), .int x1] : List Value).toArray := ⟨_, rfl⟩
  rw [← hargs] at C ⊢
  obtain ⟨hx, hb, hrt, hml, hown, hts, hlocks, hK, hSv⟩ := id C
  have hl : lv_has ls 3 [(0, .ref (b0 + 208)), (1, .int x1)] := hl
  have K_54 : ∀ (n : Nat) (V : St) (x1 : Int32) (x2 : Int32), f_X10_changed_b54 n V x1 x2 = some res → ∀ (H : Heap) (locs : List Loc) (ls : Array Slot), Hd G b0 V H → va_S (Ab b0) s.heap H locs → lv_has ls 3 [(0, .ref (b0 + 208)), (1, .int x1), (2, .int x2)] → W p l e (rm 0) s m args below meth c H locs 0 0 (MQ below (QI G b0 res.1 res.2) args s 0 0 (Ab b0)) (F0 m 54 ls []) := by
    intro  n
    induction n with
    | zero =>
      intro V x1 x2 hr
      rw [f_X10_changed_b54] at hr
      cases hr
    | succ n ih =>
      intro V x1 x2 hr H locs ls hV hS hl
      rw [f_X10_changed_b54] at hr
      refine lv_iload_n hx hb dX10_changed_54 rfl (lv_at hl 2 rfl) ?_
      refine lv_bipush (v := 53) hx hb dX10_changed_55 (by decide) ?_
      refine lv_icmp_ge (tgt := 88) hx hb dX10_changed_57 (by decide) (fun b_1 => ?_) (fun b_1 => ?_)
      · have hr := it b_1 hr
        refine lv_iload_n hx hb dX10_changed_88 rfl (lv_at hl 1 rfl) ?_
        rw [← Option.some.inj hr]
        exact fin_i C hV hS rfl dX10_changed_89
      · have hr := ie b_1 hr
        refine lv_aload_n hx hb dX10_changed_60 rfl (lv_at hl 0 rfl) ?_
        refine g_X10_4 C hV q_1395 dX10_changed_61 ?_
        refine lv_bipush (v := 53) hx hb dX10_changed_64 (by decide) ?_
        refine lv_aload_n hx hb dX10_changed_66 rfl (lv_at hl 0 rfl) ?_
        refine g_X10_5 C hV q_1396 dX10_changed_67 ?_
        refine lv_iconst (v := 1) hx hb dX10_changed_70 (by decide) ?_
        refine lv_isub hx hb dX10_changed_71 ?_
        refine lv_imul hx hb dX10_changed_72 ?_
        refine lv_iload_n hx hb dX10_changed_73 rfl (lv_at hl 2 rfl) ?_
        refine lv_iadd hx hb dX10_changed_74 ?_
        refine lv_aload_n hx hb dX10_changed_75 rfl (lv_at hl 0 rfl) ?_
        refine g_X10_2 C hV q_1393 dX10_changed_76 ?_
        refine lv_iload_n hx hb dX10_changed_79 rfl (lv_at hl 2 rfl) ?_
        obtain ⟨j2, e2, hr⟩ := ob hr
        refine a_22 (k := 210) (i := x2) (j := j2) C hV z_210 e2 dX10_changed_80 ?_
        obtain ⟨j3, e3, hr⟩ := ob hr
        refine s_24 (k := 212) (i := ((53 * ((V 208 5) - 1)) + x2)) (j := j3) (x := (V 210 j2)) C hV hS z_212 e3 dX10_changed_81 (fun H locs hV hS => ?_)
        refine lv_iinc (v := x2 + 1) (lv' := [(2, .int (x2 + 1)), (0, .ref (b0 + 208)), (1, .int x1)]) hx hb dX10_changed_82 hl (k := 2) rfl rfl (by decide) rfl (fun ls hl => ?_)
        refine lv_goto (tgt := 54) hx hb dX10_changed_85 (by decide) ?_
        exact ih _ x1 (x2 + 1) hr _ _ ls hV hS (lv_sub hl [1, 2, 0] rfl)
  have K_52 : ∀ (V : St) (x1 : Int32), f_X10_changed_b52 V x1 = some res → ∀ (H : Heap) (locs : List Loc) (ls : Array Slot), Hd G b0 V H → va_S (Ab b0) s.heap H locs → lv_has ls 3 [(0, .ref (b0 + 208)), (1, .int x1)] → W p l e (rm 0) s m args below meth c H locs 0 0 (MQ below (QI G b0 res.1 res.2) args s 0 0 (Ab b0)) (F0 m 52 ls []) := by
    intro V x1 hr H locs ls hV hS hl
    unfold f_X10_changed_b52 at hr
    refine lv_iconst (v := 0) hx hb dX10_changed_52 (by decide) ?_
    refine lv_istore_n (lv' := [(2, .int 0), (0, .ref (b0 + 208)), (1, .int x1)]) hx hb dX10_changed_53 rfl hl (by decide) rfl (fun ls hl => ?_)
    exact K_54 500 _ x1 0 hr _ _ ls hV hS (lv_sub hl [1, 2, 0] rfl)
  have K_11 : ∀ (n : Nat) (V : St) (x1 : Int32) (x2 : Int32), f_X10_changed_b11 n V x1 x2 = some res → ∀ (H : Heap) (locs : List Loc) (ls : Array Slot), Hd G b0 V H → va_S (Ab b0) s.heap H locs → lv_has ls 3 [(0, .ref (b0 + 208)), (1, .int x1), (2, .int x2)] → W p l e (rm 0) s m args below meth c H locs 0 0 (MQ below (QI G b0 res.1 res.2) args s 0 0 (Ab b0)) (F0 m 11 ls []) := by
    intro  n
    induction n with
    | zero =>
      intro V x1 x2 hr
      rw [f_X10_changed_b11] at hr
      cases hr
    | succ n ih =>
      intro V x1 x2 hr H locs ls hV hS hl
      rw [f_X10_changed_b11] at hr
      refine lv_iload_n hx hb dX10_changed_11 rfl (lv_at hl 2 rfl) ?_
      refine lv_sipush (v := 371) hx hb dX10_changed_12 (by decide) ?_
      refine lv_icmp_ge (tgt := 39) hx hb dX10_changed_15 (by decide) (fun b_4 => ?_) (fun b_4 => ?_)
      · have hr := it b_4 hr
        refine lv_goto (tgt := 52) hx hb dX10_changed_39 (by decide) ?_
        exact K_52 _ x1 hr _ _ ls hV hS (lv_sub hl [0, 1] rfl)
      · have hr := ie b_4 hr
        refine lv_aload_n hx hb dX10_changed_18 rfl (lv_at hl 0 rfl) ?_
        refine g_X10_4 C hV q_1395 dX10_changed_19 ?_
        refine lv_iload_n hx hb dX10_changed_22 rfl (lv_at hl 2 rfl) ?_
        refine lv_aload_n hx hb dX10_changed_23 rfl (lv_at hl 0 rfl) ?_
        refine g_X10_4 C hV q_1395 dX10_changed_24 ?_
        refine lv_iload_n hx hb dX10_changed_27 rfl (lv_at hl 2 rfl) ?_
        refine lv_bipush (v := 53) hx hb dX10_changed_28 (by decide) ?_
        refine lv_iadd hx hb dX10_changed_30 ?_
        obtain ⟨j5, e5, hr⟩ := ob hr
        refine a_24 (k := 212) (i := (x2 + 53)) (j := j5) C hV z_212 e5 dX10_changed_31 ?_
        obtain ⟨j6, e6, hr⟩ := ob hr
        refine s_24 (k := 212) (i := x2) (j := j6) (x := (V 212 j5)) C hV hS z_212 e6 dX10_changed_32 (fun H locs hV hS => ?_)
        refine lv_iinc (v := x2 + 1) (lv' := [(2, .int (x2 + 1)), (0, .ref (b0 + 208)), (1, .int x1)]) hx hb dX10_changed_33 hl (k := 2) rfl rfl (by decide) rfl (fun ls hl => ?_)
        refine lv_goto (tgt := 11) hx hb dX10_changed_36 (by decide) ?_
        exact ih _ x1 (x2 + 1) hr _ _ ls hV hS (lv_sub hl [1, 2, 0] rfl)
  unfold f_X10_changed at hr
  refine lv_aload_n hx hb dX10_changed_0 rfl (lv_at hl 0 rfl) ?_
  refine g_X10_5 C hV q_1396 dX10_changed_1 ?_
  refine lv_bipush (v := 8) hx hb dX10_changed_4 (by decide) ?_
  refine lv_icmp_ne (tgt := 42) hx hb dX10_changed_6 (by decide) (fun b_7 => ?_) (fun b_7 => ?_)
  · have hr := ie b_7 hr
    refine lv_aload_n hx hb dX10_changed_42 rfl (lv_at hl 0 rfl) ?_
    refine lv_dup hx hb dX10_changed_43 rfl ?_
    refine g_X10_5 C hV q_1396 dX10_changed_44 ?_
    refine lv_iconst (v := 1) hx hb dX10_changed_47 (by decide) ?_
    refine lv_iadd hx hb dX10_changed_48 ?_
    refine p_X10_5 (x := ((V 208 5) + 1)) C hV hS q_1396 dX10_changed_49 (fun H locs hV hS => ?_)
    exact K_52 _ x1 hr _ _ ls hV hS (lv_sub hl [0, 1] rfl)
  · have hr := it b_7 hr
    refine lv_iconst (v := 0) hx hb dX10_changed_9 (by decide) ?_
    refine lv_istore_n (lv' := [(2, .int 0), (0, .ref (b0 + 208)), (1, .int x1)]) hx hb dX10_changed_10 rfl hl (by decide) rfl (fun ls hl => ?_)
    exact K_11 500 _ x1 0 hr _ _ ls hV hS (lv_sub hl [1, 2, 0] rfl)
set_option maxHeartbeats 4000000 in
set_option maxRecDepth 100000 in
theorem c_X10_refused (l : Launch) (G : LG) (b0 : Nat) (V : St) (x1 : Int32) (x2 : Int32) (res : Int32 × St) (hr : f_X10_refused V x1 x2 = some res) : Met l yX10_refused (wy yX10_refused cX10_refused 3 (some .int)) (rm 0) (va_Pc [.ref (b0 + 208), .int x1, .int x2] (Iv G b0 V)) (QI G b0 res.1 res.2) 0 0 (Ab b0) := by
  refine mk_m (by decide +kernel) (Nat.le_of_ble_eq_true rfl) ?_
  intro p e s m below meth c C hV hS ls hl
  obtain ⟨args, hargs⟩ : ∃ z, z = ([.ref (b0 + 208), .int x1, .int x2] : List Value).toArray := ⟨_, rfl⟩
  rw [← hargs] at C ⊢
  obtain ⟨hx, hb, hrt, hml, hown, hts, hlocks, hK, hSv⟩ := id C
  have hl : lv_has ls 3 [(0, .ref (b0 + 208)), (1, .int x1), (2, .int x2)] := hl
  unfold f_X10_refused at hr
  refine lv_aload_n hx hb dX10_refused_0 rfl (lv_at hl 0 rfl) ?_
  refine lv_iload_n hx hb dX10_refused_1 rfl (lv_at hl 2 rfl) ?_
  refine p_X10_17 (x := x2) C hV hS q_1408 dX10_refused_2 (fun H locs hV hS => ?_)
  refine lv_iload_n hx hb dX10_refused_5 rfl (lv_at hl 1 rfl) ?_
  rw [← Option.some.inj hr]
  exact fin_i C hV hS rfl dX10_refused_6
set_option maxHeartbeats 4000000 in
set_option maxRecDepth 100000 in
theorem c_X10_done (l : Launch) (G : LG) (b0 : Nat) (V : St) (x1 : Int32) (res : Int32 × St) (hr : f_X10_done V x1 = some res) : Met l yX10_done (wy yX10_done cX10_done 2 (some .int)) (rm 0) (va_Pc [.ref (b0 + 208), .int x1] (Iv G b0 V)) (QI G b0 res.1 res.2) 0 0 (Ab b0) := by
  refine mk_m (by decide +kernel) (Nat.le_of_ble_eq_true rfl) ?_
  intro p e s m below meth c C hV hS ls hl
  obtain ⟨args, hargs⟩ : ∃ z, z = ([.ref (b0 + 208), .int x1] : List Value).toArray := ⟨_, rfl⟩
  rw [← hargs] at C ⊢
  obtain ⟨hx, hb, hrt, hml, hown, hts, hlocks, hK, hSv⟩ := id C
  have hl : lv_has ls 2 [(0, .ref (b0 + 208)), (1, .int x1)] := hl
  unfold f_X10_done at hr
  refine lv_aload_n hx hb dX10_done_0 rfl (lv_at hl 0 rfl) ?_
  refine lv_iload_n hx hb dX10_done_1 rfl (lv_at hl 1 rfl) ?_
  refine p_X10_18 (x := x1) C hV hS q_1409 dX10_done_2 (fun H locs hV hS => ?_)
  refine lv_iconst (v := 0) hx hb dX10_done_5 (by decide) ?_
  rw [← Option.some.inj hr]
  exact fin_i C hV hS rfl dX10_done_6
set_option maxHeartbeats 4000000 in
set_option maxRecDepth 100000 in
theorem c_X10_ends (l : Launch) (G : LG) (b0 : Nat) (V : St) (x1 : Int32) (res : Int32 × St) (hr : f_X10_ends V x1 = some res) : Met l yX10_ends (wy yX10_ends cX10_ends 2 (some .int)) (rm 1) (va_Pc [.ref (b0 + 208), .int x1] (Iv G b0 V)) (QI G b0 res.1 res.2) 0 0 (Ab b0) := by
  refine mk_m (by decide +kernel) (Nat.le_of_ble_eq_true rfl) ?_
  intro p e s m below meth c C hV hS ls hl
  obtain ⟨args, hargs⟩ : ∃ z, z = ([.ref (b0 + 208), .int x1] : List Value).toArray := ⟨_, rfl⟩
  rw [← hargs] at C ⊢
  obtain ⟨hx, hb, hrt, hml, hown, hts, hlocks, hK, hSv⟩ := id C
  have hl : lv_has ls 2 [(0, .ref (b0 + 208)), (1, .int x1)] := hl
  unfold f_X10_ends at hr
  refine lv_iload_n hx hb dX10_ends_0 rfl (lv_at hl 1 rfl) ?_
  refine lv_if_ne (tgt := 13) hx hb dX10_ends_1 (by decide) (fun b_1 => ?_) (fun b_1 => ?_)
  · have hr := ie b_1 hr
    refine lv_aload_n hx hb dX10_ends_13 rfl (lv_at hl 0 rfl) ?_
    refine lv_iload_n hx hb dX10_ends_14 rfl (lv_at hl 1 rfl) ?_
    refine p_X10_13 (x := x1) C hV hS q_1404 dX10_ends_15 (fun H locs hV hS => ?_)
    refine lv_aload_n hx hb dX10_ends_18 rfl (lv_at hl 0 rfl) ?_
    refine lv_aload_n hx hb dX10_ends_19 rfl (lv_at hl 0 rfl) ?_
    refine g_X10_17 C hV q_1408 dX10_ends_20 ?_
    refine p_X10_14 (x := ((up V 208 13 x1) 208 17)) C hV hS q_1405 dX10_ends_23 (fun H locs hV hS => ?_)
    refine lv_aload_n hx hb dX10_ends_26 rfl (lv_at hl 0 rfl) ?_
    refine lv_iconst (v := 0) hx hb dX10_ends_27 (by decide) ?_
    refine p_X10_15 (x := 0) C hV hS q_1406 dX10_ends_28 (fun H locs hV hS => ?_)
    refine lv_aload_n hx hb dX10_ends_31 rfl (lv_at hl 0 rfl) ?_
    refine lv_iconst (v := 1) hx hb dX10_ends_32 (by decide) ?_
    obtain ⟨q2, e2, hr⟩ := ob hr
    refine cal_i (run_V (As := [.int 1]) (rest := []) C hV hS (c_X10_fails l G b0 (up (up (up V 208 13 x1) 208 14 ((up V 208 13 x1) 208 17)) 208 15 0) 1 q2 e2) (rcv hK hV (kd_lt z_208 (by decide)) (cel_20 z_208) rfl) q_1523 q_1525 q_103 q_151 q_1526 dk_X10_fails (rm_ok (by decide) (by decide)) hl.1 rfl (Nat.le_of_ble_eq_true rfl) dX10_ends_33 ⟨Nat.zero_le _, Nat.zero_le _⟩) hS (fun H locs hV hS => ?_)
    rw [← Option.some.inj hr]
    exact fin_i C hV hS rfl dX10_ends_36
  · have hr := it b_1 hr
    refine lv_aload_n hx hb dX10_ends_4 rfl (lv_at hl 0 rfl) ?_
    refine lv_aload_n hx hb dX10_ends_5 rfl (lv_at hl 0 rfl) ?_
    refine g_X10_18 C hV q_1409 dX10_ends_6 ?_
    obtain ⟨q3, e3, hr⟩ := ob hr
    refine cal_i (run_V (As := [.int (V 208 18)]) (rest := []) C hV hS (c_X10_changed l G b0 V (V 208 18) q3 e3) (rcv hK hV (kd_lt z_208 (by decide)) (cel_20 z_208) rfl) q_1519 q_1521 q_102 q_151 q_1522 dk_X10_changed (rm_ok (by decide) (by decide)) hl.1 rfl (Nat.le_of_ble_eq_true rfl) dX10_ends_9 ⟨Nat.zero_le _, Nat.zero_le _⟩) hS (fun H locs hV hS => ?_)
    rw [← Option.some.inj hr]
    exact fin_i C hV hS rfl dX10_ends_12
set_option maxHeartbeats 4000000 in
set_option maxRecDepth 100000 in
theorem c_X10_isNet (l : Launch) (G : LG) (b0 : Nat) (V : St) (x0 : Int32) (res : Int32) (hr : f_X10_isNet x0 = some res) : Met l yX10_isNet (wy yX10_isNet cX10_isNet 1 (some .boolean)) (rm 1) (va_Pc [.int x0] (Iv G b0 V)) (QI G b0 res V) 0 0 (Ab b0) := by
  refine mk_m (by decide +kernel) (Nat.le_of_ble_eq_true rfl) ?_
  intro p e s m below meth c C hV hS ls hl
  obtain ⟨args, hargs⟩ : ∃ z, z = ([.int x0] : List Value).toArray := ⟨_, rfl⟩
  rw [← hargs] at C ⊢
  obtain ⟨hx, hb, hrt, hml, hown, hts, hlocks, hK, hSv⟩ := id C
  have hl : lv_has ls 1 [(0, .int x0)] := hl
  unfold f_X10_isNet at hr
  refine lv_iload_n hx hb dX10_isNet_0 rfl (lv_at hl 0 rfl) ?_
  refine lv_iconst (v := 0) hx hb dX10_isNet_1 (by decide) ?_
  refine lv_iconst (v := 2) hx hb dX10_isNet_2 (by decide) ?_
  obtain ⟨q1, e1, hr⟩ := ob hr
  refine cal_i (run_S (As := [.int x0, .int 0, .int 2]) (rest := []) C hV hS (c_X10_in l G b0 V x0 0 2 q1 e1) q_1489 q_1490 q_151 q_1491 dk_X10_in (rm_ok (by decide) (by decide)) hl.1 rfl (Nat.le_of_ble_eq_true rfl) dX10_isNet_3 ⟨Nat.zero_le _, Nat.zero_le _⟩) hS (fun H locs hV hS => ?_)
  obtain ⟨q2, e2, hr⟩ := ob hr
  exact fin_z C hV hS (nr_in e2).2 (Option.some.inj hr) dX10_isNet_6
set_option maxHeartbeats 4000000 in
set_option maxRecDepth 100000 in
theorem c_X10_isPlace (l : Launch) (G : LG) (b0 : Nat) (V : St) (x0 : Int32) (res : Int32) (hr : f_X10_isPlace x0 = some res) : Met l yX10_isPlace (wy yX10_isPlace cX10_isPlace 1 (some .boolean)) (rm 1) (va_Pc [.int x0] (Iv G b0 V)) (QI G b0 res V) 0 0 (Ab b0) := by
  refine mk_m (by decide +kernel) (Nat.le_of_ble_eq_true rfl) ?_
  intro p e s m below meth c C hV hS ls hl
  obtain ⟨args, hargs⟩ : ∃ z, z = ([.int x0] : List Value).toArray := ⟨_, rfl⟩
  rw [← hargs] at C ⊢
  obtain ⟨hx, hb, hrt, hml, hown, hts, hlocks, hK, hSv⟩ := id C
  have hl : lv_has ls 1 [(0, .int x0)] := hl
  unfold f_X10_isPlace at hr
  refine lv_iload_n hx hb dX10_isPlace_0 rfl (lv_at hl 0 rfl) ?_
  refine lv_iconst (v := 0) hx hb dX10_isPlace_1 (by decide) ?_
  refine lv_bipush (v := 23) hx hb dX10_isPlace_2 (by decide) ?_
  obtain ⟨q1, e1, hr⟩ := ob hr
  refine cal_i (run_S (As := [.int x0, .int 0, .int 23]) (rest := []) C hV hS (c_X10_in l G b0 V x0 0 23 q1 e1) q_1489 q_1490 q_151 q_1491 dk_X10_in (rm_ok (by decide) (by decide)) hl.1 rfl (Nat.le_of_ble_eq_true rfl) dX10_isPlace_4 ⟨Nat.zero_le _, Nat.zero_le _⟩) hS (fun H locs hV hS => ?_)
  obtain ⟨q2, e2, hr⟩ := ob hr
  exact fin_z C hV hS (nr_in e2).2 (Option.some.inj hr) dX10_isPlace_7
set_option maxHeartbeats 4000000 in
set_option maxRecDepth 100000 in
theorem c_X10_of (l : Launch) (G : LG) (b0 : Nat) (V : St) (x1 : Int32) (x2 : Int32) (res : Int32) (hr : f_X10_of V x1 x2 = some res) : Met l yX10_of (wy yX10_of cX10_of 3 (some .int)) (rm 0) (va_Pc [.ref (b0 + 208), .int x1, .int x2] (Iv G b0 V)) (QI G b0 res V) 0 0 (Ab b0) := by
  refine mk_m (by decide +kernel) (Nat.le_of_ble_eq_true rfl) ?_
  intro p e s m below meth c C hV hS ls hl
  obtain ⟨args, hargs⟩ : ∃ z, z = ([.ref (b0 + 208), .int x1, .int x2] : List Value).toArray := ⟨_, rfl⟩
  rw [← hargs] at C ⊢
  obtain ⟨hx, hb, hrt, hml, hown, hts, hlocks, hK, hSv⟩ := id C
  have hl : lv_has ls 3 [(0, .ref (b0 + 208)), (1, .int x1), (2, .int x2)] := hl
  unfold f_X10_of at hr
  refine lv_aload_n hx hb dX10_of_0 rfl (lv_at hl 0 rfl) ?_
  refine g_X10_1 C hV q_1392 dX10_of_1 ?_
  refine lv_bipush (v := 6) hx hb dX10_of_4 (by decide) ?_
  refine lv_iconst (v := 5) hx hb dX10_of_6 (by decide) ?_
  refine lv_iload_n hx hb dX10_of_7 rfl (lv_at hl 1 rfl) ?_
  refine lv_imul hx hb dX10_of_8 ?_
  refine lv_iadd hx hb dX10_of_9 ?_
  refine lv_iload_n hx hb dX10_of_10 rfl (lv_at hl 2 rfl) ?_
  refine lv_iadd hx hb dX10_of_11 ?_
  obtain ⟨j1, e1, hr⟩ := ob hr
  refine a_21 (k := 209) (i := ((6 + (5 * x1)) + x2)) (j := j1) C hV z_209 e1 dX10_of_12 ?_
  exact fin_i C hV hS (Option.some.inj hr) dX10_of_13
set_option maxHeartbeats 4000000 in
set_option maxRecDepth 100000 in
theorem c_X10_sets (l : Launch) (G : LG) (b0 : Nat) (V : St) (x1 : Int32) (x2 : Int32) (x3 : Int32) (x4 : Int32) (res : St) (hr : f_X10_sets V x1 x2 x3 x4 = some res) : Met l yX10_sets (wy yX10_sets cX10_sets 6 none) (rm 0) (va_Pc [.ref (b0 + 208), .int x1, .int x2, .int x3, .int x4] (Iv G b0 V)) (QV G b0 res) 0 0 (Ab b0) := by
  refine mk_m (by decide +kernel) (Nat.le_of_ble_eq_true rfl) ?_
  intro p e s m below meth c C hV hS ls hl
  obtain ⟨args, hargs⟩ : ∃ z, z = ([.ref (b0 + 208), .int x1, .int x2, .int x3, .int x4] : List Value).toArray := ⟨_, rfl⟩
  rw [← hargs] at C ⊢
  obtain ⟨hx, hb, hrt, hml, hown, hts, hlocks, hK, hSv⟩ := id C
  have hl : lv_has ls 6 [(0, .ref (b0 + 208)), (1, .int x1), (2, .int x2), (3, .int x3), (4, .int x4)] := hl
  unfold f_X10_sets at hr
  refine lv_bipush (v := 6) hx hb dX10_sets_0 (by decide) ?_
  refine lv_iconst (v := 5) hx hb dX10_sets_2 (by decide) ?_
  refine lv_iload_n hx hb dX10_sets_3 rfl (lv_at hl 1 rfl) ?_
  refine lv_imul hx hb dX10_sets_4 ?_
  refine lv_iadd hx hb dX10_sets_5 ?_
  refine lv_iload_n hx hb dX10_sets_6 rfl (lv_at hl 2 rfl) ?_
  refine lv_iadd hx hb dX10_sets_7 ?_
  refine lv_istore (lv' := [(5, .int ((6 + (5 * x1)) + x2)), (0, .ref (b0 + 208)), (1, .int x1), (2, .int x2), (3, .int x3), (4, .int x4)]) hx hb dX10_sets_8 hl (by decide) rfl (fun ls hl => ?_)
  refine lv_aload_n hx hb dX10_sets_10 rfl (lv_at hl 1 rfl) ?_
  refine g_X10_1 C hV q_1392 dX10_sets_11 ?_
  refine lv_iload hx hb dX10_sets_14 (lv_at hl 0 rfl) ?_
  refine lv_iload hx hb dX10_sets_16 (lv_at hl 5 rfl) ?_
  refine lv_if_eq (tgt := 35) hx hb dX10_sets_18 (by decide) (fun b_1 => ?_) (fun b_1 => ?_)
  · have hr := it b_1 hr
    refine lv_aload_n hx hb dX10_sets_35 rfl (lv_at hl 1 rfl) ?_
    refine g_X10_1 C hV q_1392 dX10_sets_36 ?_
    refine lv_iload hx hb dX10_sets_39 (lv_at hl 0 rfl) ?_
    obtain ⟨j2, e2, hr⟩ := ob hr
    refine a_21 (k := 209) (i := ((6 + (5 * x1)) + x2)) (j := j2) C hV z_209 e2 dX10_sets_41 ?_
    refine lv_iconst (v := 1) hx hb dX10_sets_42 (by decide) ?_
    refine lv_iload_n hx hb dX10_sets_43 rfl (lv_at hl 4 rfl) ?_
    refine lv_ishl hx hb dX10_sets_44 ?_
    refine lv_iconst (v := (-1)) hx hb dX10_sets_45 (by decide) ?_
    refine lv_ixor hx hb dX10_sets_46 ?_
    refine lv_iand hx hb dX10_sets_47 ?_
    obtain ⟨j3, e3, hr⟩ := ob hr
    refine s_21 (k := 209) (i := ((6 + (5 * x1)) + x2)) (j := j3) (x := ((V 209 j2) &&& ((1 <<< (x3 &&& 31)) ^^^ (-1)))) C hV hS z_209 e3 dX10_sets_48 (fun H locs hV hS => ?_)
    exact fin_v C hV hS (Option.some.inj hr) dX10_sets_49
  · have hr := ie b_1 hr
    refine lv_aload_n hx hb dX10_sets_21 rfl (lv_at hl 1 rfl) ?_
    refine g_X10_1 C hV q_1392 dX10_sets_22 ?_
    refine lv_iload hx hb dX10_sets_25 (lv_at hl 0 rfl) ?_
    obtain ⟨j4, e4, hr⟩ := ob hr
    refine a_21 (k := 209) (i := ((6 + (5 * x1)) + x2)) (j := j4) C hV z_209 e4 dX10_sets_27 ?_
    refine lv_iconst (v := 1) hx hb dX10_sets_28 (by decide) ?_
    refine lv_iload_n hx hb dX10_sets_29 rfl (lv_at hl 4 rfl) ?_
    refine lv_ishl hx hb dX10_sets_30 ?_
    refine lv_ior hx hb dX10_sets_31 ?_
    refine lv_goto (tgt := 48) hx hb dX10_sets_32 (by decide) ?_
    obtain ⟨j5, e5, hr⟩ := ob hr
    refine s_21 (k := 209) (i := ((6 + (5 * x1)) + x2)) (j := j5) (x := ((V 209 j4) ||| (1 <<< (x3 &&& 31)))) C hV hS z_209 e5 dX10_sets_48 (fun H locs hV hS => ?_)
    exact fin_v C hV hS (Option.some.inj hr) dX10_sets_49
set_option maxHeartbeats 4000000 in
set_option maxRecDepth 100000 in
theorem c_X10_kind (l : Launch) (G : LG) (b0 : Nat) (V : St) (x1 : Int32) (x2 : Int32) (res : Int32) (hr : f_X10_kind V x1 x2 = some res) : Met l yX10_kind (wy yX10_kind cX10_kind 3 (some .int)) (rm 1) (va_Pc [.ref (b0 + 208), .int x1, .int x2] (Iv G b0 V)) (QI G b0 res V) 0 0 (Ab b0) := by
  refine mk_m (by decide +kernel) (Nat.le_of_ble_eq_true rfl) ?_
  intro p e s m below meth c C hV hS ls hl
  obtain ⟨args, hargs⟩ : ∃ z, z = ([.ref (b0 + 208), .int x1, .int x2] : List Value).toArray := ⟨_, rfl⟩
  rw [← hargs] at C ⊢
  obtain ⟨hx, hb, hrt, hml, hown, hts, hlocks, hK, hSv⟩ := id C
  have hl : lv_has ls 3 [(0, .ref (b0 + 208)), (1, .int x1), (2, .int x2)] := hl
  unfold f_X10_kind at hr
  refine lv_aload_n hx hb dX10_kind_0 rfl (lv_at hl 0 rfl) ?_
  refine lv_iload_n hx hb dX10_kind_1 rfl (lv_at hl 1 rfl) ?_
  refine lv_iconst (v := 0) hx hb dX10_kind_2 (by decide) ?_
  obtain ⟨q1, e1, hr⟩ := ob hr
  refine cal_i (run_V (As := [.int x1, .int 0]) (rest := []) C hV hS (c_X10_of l G b0 V x1 0 q1 e1) (rcv hK hV (kd_lt z_208 (by decide)) (cel_20 z_208) rfl) q_1503 q_1505 q_98 q_151 q_1506 dk_X10_of (rm_ok (by decide) (by decide)) hl.1 rfl (Nat.le_of_ble_eq_true rfl) dX10_kind_3 ⟨Nat.zero_le _, Nat.zero_le _⟩) hS (fun H locs hV hS => ?_)
  refine lv_iload_n hx hb dX10_kind_6 rfl (lv_at hl 2 rfl) ?_
  refine lv_ishr hx hb dX10_kind_7 ?_
  refine lv_iconst (v := 1) hx hb dX10_kind_8 (by decide) ?_
  refine lv_iand hx hb dX10_kind_9 ?_
  refine lv_iconst (v := 2) hx hb dX10_kind_10 (by decide) ?_
  refine lv_aload_n hx hb dX10_kind_11 rfl (lv_at hl 0 rfl) ?_
  refine lv_iload_n hx hb dX10_kind_12 rfl (lv_at hl 1 rfl) ?_
  refine lv_iconst (v := 1) hx hb dX10_kind_13 (by decide) ?_
  obtain ⟨q2, e2, hr⟩ := ob hr
  refine cal_i (run_V (As := [.int x1, .int 1]) (rest := [.int 2, .int ((q1 >>> (x2 &&& 31)) &&& 1)]) C hV hS (c_X10_of l G b0 V x1 1 q2 e2) (rcv hK hV (kd_lt z_208 (by decide)) (cel_20 z_208) rfl) q_1503 q_1505 q_98 q_151 q_1506 dk_X10_of (rm_ok (by decide) (by decide)) hl.1 rfl (Nat.le_of_ble_eq_true rfl) dX10_kind_14 ⟨Nat.zero_le _, Nat.zero_le _⟩) hS (fun H locs hV hS => ?_)
  refine lv_iload_n hx hb dX10_kind_17 rfl (lv_at hl 2 rfl) ?_
  refine lv_ishr hx hb dX10_kind_18 ?_
  refine lv_iconst (v := 1) hx hb dX10_kind_19 (by decide) ?_
  refine lv_iand hx hb dX10_kind_20 ?_
  refine lv_imul hx hb dX10_kind_21 ?_
  refine lv_iadd hx hb dX10_kind_22 ?_
  exact fin_i C hV hS (Option.some.inj hr) dX10_kind_23
