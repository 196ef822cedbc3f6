set_option maxHeartbeats 4000000 in
set_option maxRecDepth 100000 in
theorem c_X9_netOf (l : Launch) (hfl : l.stackTraces = false) (G : LG) (b0 : Nat) (V : St) (x1 : Int32) (x2 : Int32) (res : Except Nat Int32) (hr : f_X9_netOf V x1 x2 = some res) : vx_Met l yX9_netOf (wy yX9_netOf cX9_netOf 4 (some .int)) (rmx 6) (va_Pc [.ref (b0 + 0), .int x1, .int x2] (Iv G b0 V)) (QIx G b0 res V) (XX G b0 (xe res) V) 1 6 (Ab b0) := by
  refine mk_x (by decide +kernel) (Nat.le_of_ble_eq_true rfl) ?_
  intro p e s m below meth c C ht hV hS ls hl
  obtain ⟨args, hargs⟩ : ∃ z, z = ([.ref (b0 + 0), .int x1, .int x2] : List Value).toArray := ⟨_, rfl⟩
  rw [← hargs] at C ⊢
  obtain ⟨hx, hb, hrt, hml, hown, hts, hlocks, hK, hSv⟩ := id C
  have hl : lv_has ls 4 [(0, .ref (b0 + 0)), (1, .int x1), (2, .int x2)] := hl
  unfold f_X9_netOf at hr
  refine lv_iload_n hx hb dX9_netOf_0 rfl (lv_at hl 1 rfl) ?_
  obtain ⟨q1, e1, hr⟩ := ob hr
  refine cal_i (run_S (As := [.int x1]) (rest := []) C hV hS (c_X9_isNet l G b0 V x1 q1 e1) q_467 q_468 q_93 q_469 dk_X9_isNet (rmx_ok (by decide) (by decide)) hl.1 rfl (Nat.le_of_ble_eq_true rfl) dX9_netOf_1 ⟨Nat.zero_le _, Nat.zero_le _⟩) hS (fun H locs hV hS => ?_)
  refine lv_if_ne (tgt := 17) hx hb dX9_netOf_4 (by decide) (fun b_2 => ?_) (fun b_2 => ?_)
  · have hr := ie b_2 hr
    refine lv_aload_n hx hb dX9_netOf_17 rfl (lv_at hl 0 rfl) ?_
    refine g_X9_0 C hV q_339 dX9_netOf_18 ?_
    refine lv_iload_n hx hb dX9_netOf_21 rfl (lv_at hl 1 rfl) ?_
    obtain ⟨q3, e3, hr⟩ := ob hr
    refine cal_r (run_VN (As := [.int x1]) (rest := []) C hV hS (c_X8_netNumbered l G b0 V 1 z_1 x1 q3 e3) (rcv hK hV (kd_lt z_1 (by decide)) (cel_1 z_1) rfl) q_483 q_485 q_1 q_94 q_486 dk_X8_netNumbered (rmx_ok (by decide) (by decide)) hl.1 rfl (Nat.le_of_ble_eq_true rfl) dX9_netOf_22 ⟨Nat.zero_le _, Nat.zero_le _⟩) hS (fun H locs hV hS => ?_)
    refine lv_astore_n (lv' := [(3, .ref (b0 + q3)), (0, .ref (b0 + 0)), (1, .int x1), (2, .int x2)]) hx hb dX9_netOf_25 rfl hl (by decide) rfl (fun ls hl => ?_)
    refine lv_iload_n hx hb dX9_netOf_26 rfl (lv_at hl 3 rfl) ?_
    by_cases b_4 : x2 = 0
    · have hr := it b_4 hr
      refine lv_tableIn (off := 41) (tgt := 68) hx hb dX9_netOf_27 (by rw [b_4]; decide) (by rw [b_4]; decide) (by rw [b_4]; decide +kernel) (by decide) ?_
      refine lv_aload_n hx hb dX9_netOf_68 rfl (lv_at hl 0 rfl) ?_
      obtain ⟨q5, e5, hr⟩ := ob hr
      refine cal_i (run_VN (As := []) (rest := []) C hV hS (c_X3_knots l G b0 V q3 (kr_X8_netNumbered z_1 e3) q5 e5) (rcv hK hV (kd_lt (kr_X8_netNumbered z_1 e3) (by decide)) (cel_5 (kr_X8_netNumbered z_1 e3)) rfl) q_1246 q_494 q_3 q_95 q_495 dk_X3_knots (rmx_ok (by decide) (by decide)) hl.1 rfl (Nat.le_of_ble_eq_true rfl) dX9_netOf_69 ⟨Nat.zero_le _, Nat.zero_le _⟩) hS (fun H locs hV hS => ?_)
      obtain ⟨q6, e6, hr⟩ := ob hr
      refine cal_i (run_S (As := [.int q5]) (rest := []) C hV hS (c_J6_bitCount_0f7a4 l G b0 V q5 q6 e6) q_499 q_500 q_104 q_501 dk_J6_bitCount_0f7a4 (rmx_ok (by decide) (by decide)) hl.1 rfl (Nat.le_of_ble_eq_true rfl) dX9_netOf_72 ⟨Nat.zero_le _, Nat.zero_le _⟩) hS (fun H locs hV hS => ?_)
      rw [← Option.some.inj hr]
      exact fin_ix C hV hS rfl dX9_netOf_75
    have hr := ie b_4 hr
    by_cases b_7 : x2 = 1
    · have hr := it b_7 hr
      refine lv_tableIn (off := 49) (tgt := 76) hx hb dX9_netOf_27 (by rw [b_7]; decide) (by rw [b_7]; decide) (by rw [b_7]; decide +kernel) (by decide) ?_
      refine lv_aload_n hx hb dX9_netOf_76 rfl (lv_at hl 0 rfl) ?_
      obtain ⟨q8, e8, hr⟩ := ob hr
      refine cal_i (run_VN (As := []) (rest := []) C hV hS (c_X3_knots l G b0 V q3 (kr_X8_netNumbered z_1 e3) q8 e8) (rcv hK hV (kd_lt (kr_X8_netNumbered z_1 e3) (by decide)) (cel_5 (kr_X8_netNumbered z_1 e3)) rfl) q_1246 q_494 q_3 q_95 q_495 dk_X3_knots (rmx_ok (by decide) (by decide)) hl.1 rfl (Nat.le_of_ble_eq_true rfl) dX9_netOf_77 ⟨Nat.zero_le _, Nat.zero_le _⟩) hS (fun H locs hV hS => ?_)
      refine lv_aload_n hx hb dX9_netOf_80 rfl (lv_at hl 1 rfl) ?_
      refine g_X9_0 C hV q_339 dX9_netOf_81 ?_
      refine lv_iload_n hx hb dX9_netOf_84 rfl (lv_at hl 2 rfl) ?_
      obtain ⟨q9, e9, hr⟩ := ob hr
      refine cal_i (run_VN (As := [.int x1]) (rest := [.int q8]) C hV hS (c_X8_dryPlaces l G b0 V 1 z_1 x1 q9 e9) (rcv hK hV (kd_lt z_1 (by decide)) (cel_1 z_1) rfl) q_1247 q_787 q_42 q_94 q_788 dk_X8_dryPlaces (rmx_ok (by decide) (by decide)) hl.1 rfl (Nat.le_of_ble_eq_true rfl) dX9_netOf_85 ⟨Nat.zero_le _, Nat.zero_le _⟩) hS (fun H locs hV hS => ?_)
      refine lv_iand hx hb dX9_netOf_88 ?_
      obtain ⟨q10, e10, hr⟩ := ob hr
      refine cal_i (run_S (As := [.int (q8 &&& q9)]) (rest := []) C hV hS (c_J6_bitCount_0f7a4 l G b0 V (q8 &&& q9) q10 e10) q_499 q_500 q_104 q_501 dk_J6_bitCount_0f7a4 (rmx_ok (by decide) (by decide)) hl.1 rfl (Nat.le_of_ble_eq_true rfl) dX9_netOf_89 ⟨Nat.zero_le _, Nat.zero_le _⟩) hS (fun H locs hV hS => ?_)
      rw [← Option.some.inj hr]
      exact fin_ix C hV hS rfl dX9_netOf_92
    have hr := ie b_7 hr
    by_cases b_11 : x2 = 2
    · have hr := it b_11 hr
      refine lv_tableIn (off := 66) (tgt := 93) hx hb dX9_netOf_27 (by rw [b_11]; decide) (by rw [b_11]; decide) (by rw [b_11]; decide +kernel) (by decide) ?_
      refine lv_aload_n hx hb dX9_netOf_93 rfl (lv_at hl 0 rfl) ?_
      obtain ⟨q12, e12, hr⟩ := ob hr
      refine cal_i (run_VN (As := []) (rest := []) C hV hS (c_X3_countTorn l G b0 V q3 (kr_X8_netNumbered z_1 e3) q12 e12) (rcv hK hV (kd_lt (kr_X8_netNumbered z_1 e3) (by decide)) (cel_5 (kr_X8_netNumbered z_1 e3)) rfl) q_1248 q_548 q_10 q_95 q_549 dk_X3_countTorn (rmx_ok (by decide) (by decide)) hl.1 rfl (Nat.le_of_ble_eq_true rfl) dX9_netOf_94 ⟨Nat.zero_le _, Nat.zero_le _⟩) hS (fun H locs hV hS => ?_)
      rw [← Option.some.inj hr]
      exact fin_ix C hV hS rfl dX9_netOf_97
    have hr := ie b_11 hr
    by_cases b_13 : x2 = 3
    · have hr := it b_13 hr
      refine lv_tableIn (off := 71) (tgt := 98) hx hb dX9_netOf_27 (by rw [b_13]; decide) (by rw [b_13]; decide) (by rw [b_13]; decide +kernel) (by decide) ?_
      refine lv_aload_n hx hb dX9_netOf_98 rfl (lv_at hl 0 rfl) ?_
      refine gn_X3_4 (k := q3) C hV (kr_X8_netNumbered z_1 e3) q_161 dX9_netOf_99 ?_
      rw [← Option.some.inj hr]
      exact fin_ix C hV hS rfl dX9_netOf_102
    have hr := ie b_13 hr
    by_cases b_14 : x2 = 4
    · have hr := it b_14 hr
      refine lv_tableIn (off := 76) (tgt := 103) hx hb dX9_netOf_27 (by rw [b_14]; decide) (by rw [b_14]; decide) (by rw [b_14]; decide +kernel) (by decide) ?_
      refine lv_aload_n hx hb dX9_netOf_103 rfl (lv_at hl 1 rfl) ?_
      refine g_X9_0 C hV q_339 dX9_netOf_104 ?_
      refine lv_iload_n hx hb dX9_netOf_107 rfl (lv_at hl 2 rfl) ?_
      obtain ⟨q15, e15, hr⟩ := ob hr
      refine cal_i (run_VN (As := [.int x1]) (rest := []) C hV hS (c_X8_linesUnderWater l G b0 V 1 z_1 x1 q15 e15) (rcv hK hV (kd_lt z_1 (by decide)) (cel_1 z_1) rfl) q_806 q_791 q_43 q_94 q_792 dk_X8_linesUnderWater (rmx_ok (by decide) (by decide)) hl.1 rfl (Nat.le_of_ble_eq_true rfl) dX9_netOf_108 ⟨Nat.zero_le _, Nat.zero_le _⟩) hS (fun H locs hV hS => ?_)
      rw [← Option.some.inj hr]
      exact fin_ix C hV hS rfl dX9_netOf_111
    have hr := ie b_14 hr
    by_cases b_16 : x2 = 5
    · have hr := it b_16 hr
      refine lv_tableIn (off := 85) (tgt := 112) hx hb dX9_netOf_27 (by rw [b_16]; decide) (by rw [b_16]; decide) (by rw [b_16]; decide +kernel) (by decide) ?_
      refine lv_aload_n hx hb dX9_netOf_112 rfl (lv_at hl 0 rfl) ?_
      refine lv_aload_n hx hb dX9_netOf_113 rfl (lv_at hl 0 rfl) ?_
      obtain ⟨q17, e17, hr⟩ := ob hr
      refine cal_i (run_VN (As := []) (rest := [.ref (b0 + q3)]) C hV hS (c_X3_knots l G b0 V q3 (kr_X8_netNumbered z_1 e3) q17 e17) (rcv hK hV (kd_lt (kr_X8_netNumbered z_1 e3) (by decide)) (cel_5 (kr_X8_netNumbered z_1 e3)) rfl) q_1246 q_494 q_3 q_95 q_495 dk_X3_knots (rmx_ok (by decide) (by decide)) hl.1 rfl (Nat.le_of_ble_eq_true rfl) dX9_netOf_114 ⟨Nat.zero_le _, Nat.zero_le _⟩) hS (fun H locs hV hS => ?_)
      obtain ⟨q18, e18, hr⟩ := ob hr
      refine cal_i (run_VN (As := [.int q17]) (rest := []) C hV hS (c_X3_greatestChapter l G b0 V q3 (kr_X8_netNumbered z_1 e3) q17 q18 e18) (rcv hK hV (kd_lt (kr_X8_netNumbered z_1 e3) (by decide)) (cel_5 (kr_X8_netNumbered z_1 e3)) rfl) q_1249 q_1251 q_68 q_95 q_1252 dk_X3_greatestChapter (rmx_ok (by decide) (by decide)) hl.1 rfl (Nat.le_of_ble_eq_true rfl) dX9_netOf_117 ⟨Nat.zero_le _, Nat.zero_le _⟩) hS (fun H locs hV hS => ?_)
      obtain ⟨q19, e19, hr⟩ := ob hr
      refine cal_i (run_S (As := [.int q18]) (rest := []) C hV hS (c_J6_bitCount_0f7a4 l G b0 V q18 q19 e19) q_499 q_500 q_104 q_501 dk_J6_bitCount_0f7a4 (rmx_ok (by decide) (by decide)) hl.1 rfl (Nat.le_of_ble_eq_true rfl) dX9_netOf_120 ⟨Nat.zero_le _, Nat.zero_le _⟩) hS (fun H locs hV hS => ?_)
      rw [← Option.some.inj hr]
      exact fin_ix C hV hS rfl dX9_netOf_123
    have hr := ie b_16 hr
    by_cases b_20 : x2 = 6
    · have hr := it b_20 hr
      refine lv_tableIn (off := 97) (tgt := 124) hx hb dX9_netOf_27 (by rw [b_20]; decide) (by rw [b_20]; decide) (by rw [b_20]; decide +kernel) (by decide) ?_
      refine lv_aload_n hx hb dX9_netOf_124 rfl (lv_at hl 0 rfl) ?_
      obtain ⟨q21, e21, hr⟩ := ob hr
      refine cal_i (run_VN (As := []) (rest := []) C hV hS (c_X3_twineForAll l G b0 V q3 (kr_X8_netNumbered z_1 e3) q21 e21) (rcv hK hV (kd_lt (kr_X8_netNumbered z_1 e3) (by decide)) (cel_5 (kr_X8_netNumbered z_1 e3)) rfl) q_1253 q_1255 q_69 q_95 q_1256 dk_X3_twineForAll (rmx_ok (by decide) (by decide)) hl.1 rfl (Nat.le_of_ble_eq_true rfl) dX9_netOf_125 ⟨Nat.zero_le _, Nat.zero_le _⟩) hS (fun H locs hV hS => ?_)
      rw [← Option.some.inj hr]
      exact fin_ix C hV hS rfl dX9_netOf_128
    have hr := ie b_20 hr
    have n_4 := lv_neT (a := 0) b_4 (by decide)
    have n_7 := lv_neT (a := 1) b_7 (by decide)
    have n_11 := lv_neT (a := 2) b_11 (by decide)
    have n_13 := lv_neT (a := 3) b_13 (by decide)
    have n_14 := lv_neT (a := 4) b_14 (by decide)
    have n_16 := lv_neT (a := 5) b_16 (by decide)
    have n_20 := lv_neT (a := 6) b_20 (by decide)
    refine lv_tableOut (tgt := 129) hx hb dX9_netOf_27 (by omega) (by decide) ?_
    rw [← Option.some.inj hr]
    exact th_3 (ik := 232) (is := 234) (ic := 236) C hfl ht hV hS hl.1 q_581 (st_1 hK) q_591 dX9_netOf_129 dX9_netOf_132 dX9_netOf_133 dX9_netOf_135 dX9_netOf_138 (Nat.le_of_ble_eq_true rfl) (Nat.le_of_ble_eq_true rfl)
  · have hr := it b_2 hr
    rw [← Option.some.inj hr]
    exact th_1 (ik := 193) (is := 210) (ic := 197) C hfl ht hV hS hl.1 q_470 (st_0 hK) q_480 dX9_netOf_7 dX9_netOf_10 dX9_netOf_11 dX9_netOf_13 dX9_netOf_16 (Nat.le_of_ble_eq_true rfl) (Nat.le_of_ble_eq_true rfl)
set_option maxHeartbeats 4000000 in
set_option maxRecDepth 100000 in
theorem c_X9_chapters (l : Launch) (hfl : l.stackTraces = false) (G : LG) (b0 : Nat) (V : St) (x1 : Int32) (res : Except Nat Int32) (hr : f_X9_chapters V x1 = some res) : vx_Met l yX9_chapters (wy yX9_chapters cX9_chapters 2 (some .int)) (rmx 6) (va_Pc [.ref (b0 + 0), .int x1] (Iv G b0 V)) (QIx G b0 res V) (XX G b0 (xe res) V) 1 6 (Ab b0) := by
  refine mk_x (by decide +kernel) (Nat.le_of_ble_eq_true rfl) ?_
  intro p e s m below meth c C ht hV hS ls hl
  obtain ⟨args, hargs⟩ : ∃ z, z = ([.ref (b0 + 0), .int x1] : List Value).toArray := ⟨_, rfl⟩
  rw [← hargs] at C ⊢
  obtain ⟨hx, hb, hrt, hml, hown, hts, hlocks, hK, hSv⟩ := id C
  have hl : lv_has ls 2 [(0, .ref (b0 + 0)), (1, .int x1)] := hl
  unfold f_X9_chapters at hr
  refine lv_iload_n hx hb dX9_chapters_0 rfl (lv_at hl 1 rfl) ?_
  obtain ⟨q1, e1, hr⟩ := ob hr
  refine cal_i (run_S (As := [.int x1]) (rest := []) C hV hS (c_X9_isNet l G b0 V x1 q1 e1) q_467 q_468 q_93 q_469 dk_X9_isNet (rmx_ok (by decide) (by decide)) hl.1 rfl (Nat.le_of_ble_eq_true rfl) dX9_chapters_1 ⟨Nat.zero_le _, Nat.zero_le _⟩) hS (fun H locs hV hS => ?_)
  refine lv_if_ne (tgt := 17) hx hb dX9_chapters_4 (by decide) (fun b_2 => ?_) (fun b_2 => ?_)
  · have hr := ie b_2 hr
    refine lv_aload_n hx hb dX9_chapters_17 rfl (lv_at hl 0 rfl) ?_
    refine g_X9_0 C hV q_339 dX9_chapters_18 ?_
    refine lv_iload_n hx hb dX9_chapters_21 rfl (lv_at hl 1 rfl) ?_
    obtain ⟨q3, e3, hr⟩ := ob hr
    refine cal_r (run_VN (As := [.int x1]) (rest := []) C hV hS (c_X8_netNumbered l G b0 V 1 z_1 x1 q3 e3) (rcv hK hV (kd_lt z_1 (by decide)) (cel_1 z_1) rfl) q_483 q_485 q_1 q_94 q_486 dk_X8_netNumbered (rmx_ok (by decide) (by decide)) hl.1 rfl (Nat.le_of_ble_eq_true rfl) dX9_chapters_22 ⟨Nat.zero_le _, Nat.zero_le _⟩) hS (fun H locs hV hS => ?_)
    obtain ⟨q4, e4, hr⟩ := ob hr
    refine cal_i (run_VN (As := []) (rest := []) C hV hS (c_X3_countChapters l G b0 V q3 (kr_X8_netNumbered z_1 e3) q4 e4) (rcv hK hV (kd_lt (kr_X8_netNumbered z_1 e3) (by decide)) (cel_5 (kr_X8_netNumbered z_1 e3)) rfl) q_488 q_490 q_2 q_95 q_491 dk_X3_countChapters (rmx_ok (by decide) (by decide)) hl.1 rfl (Nat.le_of_ble_eq_true rfl) dX9_chapters_25 ⟨Nat.zero_le _, Nat.zero_le _⟩) hS (fun H locs hV hS => ?_)
    rw [← Option.some.inj hr]
    exact fin_ix C hV hS rfl dX9_chapters_28
  · have hr := it b_2 hr
    rw [← Option.some.inj hr]
    exact th_1 (ik := 193) (is := 210) (ic := 197) C hfl ht hV hS hl.1 q_470 (st_0 hK) q_480 dX9_chapters_7 dX9_chapters_10 dX9_chapters_11 dX9_chapters_13 dX9_chapters_16 (Nat.le_of_ble_eq_true rfl) (Nat.le_of_ble_eq_true rfl)
set_option maxHeartbeats 4000000 in
set_option maxRecDepth 100000 in
theorem c_X9_chaptersAgain (l : Launch) (hfl : l.stackTraces = false) (G : LG) (b0 : Nat) (V : St) (x1 : Int32) (res : (Except Nat Int32) × St) (hr : f_X9_chaptersAgain V x1 = some res) : vx_Met l yX9_chaptersAgain (wy yX9_chaptersAgain cX9_chaptersAgain 2 (some .int)) (rmx 6) (va_Pc [.ref (b0 + 0), .int x1] (Iv G b0 V)) (QIx G b0 res.1 res.2) (XX G b0 (xe res.1) res.2) 1 6 (Ab b0) := by
  refine mk_x (by decide +kernel) (Nat.le_of_ble_eq_true rfl) ?_
  intro p e s m below meth c C ht hV hS ls hl
  obtain ⟨args, hargs⟩ : ∃ z, z = ([.ref (b0 + 0), .int x1] : List Value).toArray := ⟨_, rfl⟩
  rw [← hargs] at C ⊢
  obtain ⟨hx, hb, hrt, hml, hown, hts, hlocks, hK, hSv⟩ := id C
  have hl : lv_has ls 2 [(0, .ref (b0 + 0)), (1, .int x1)] := hl
  unfold f_X9_chaptersAgain at hr
  refine lv_iload_n hx hb dX9_chaptersAgain_0 rfl (lv_at hl 1 rfl) ?_
  obtain ⟨q1, e1, hr⟩ := ob hr
  refine cal_i (run_S (As := [.int x1]) (rest := []) C hV hS (c_X9_isNet l G b0 V x1 q1 e1) q_467 q_468 q_93 q_469 dk_X9_isNet (rmx_ok (by decide) (by decide)) hl.1 rfl (Nat.le_of_ble_eq_true rfl) dX9_chaptersAgain_1 ⟨Nat.zero_le _, Nat.zero_le _⟩) hS (fun H locs hV hS => ?_)
  refine lv_if_ne (tgt := 17) hx hb dX9_chaptersAgain_4 (by decide) (fun b_2 => ?_) (fun b_2 => ?_)
  · have hr := ie b_2 hr
    refine lv_aload_n hx hb dX9_chaptersAgain_17 rfl (lv_at hl 0 rfl) ?_
    refine g_X9_0 C hV q_339 dX9_chaptersAgain_18 ?_
    refine lv_iload_n hx hb dX9_chaptersAgain_21 rfl (lv_at hl 1 rfl) ?_
    obtain ⟨q3, e3, hr⟩ := ob hr
    refine cal_r (run_VN (As := [.int x1]) (rest := []) C hV hS (c_X8_netNumbered l G b0 V 1 z_1 x1 q3 e3) (rcv hK hV (kd_lt z_1 (by decide)) (cel_1 z_1) rfl) q_483 q_485 q_1 q_94 q_486 dk_X8_netNumbered (rmx_ok (by decide) (by decide)) hl.1 rfl (Nat.le_of_ble_eq_true rfl) dX9_chaptersAgain_22 ⟨Nat.zero_le _, Nat.zero_le _⟩) hS (fun H locs hV hS => ?_)
    refine lv_aload_n hx hb dX9_chaptersAgain_25 rfl (lv_at hl 0 rfl) ?_
    refine g_X9_5 C hV q_344 dX9_chaptersAgain_26 ?_
    obtain ⟨q4, e4, hr⟩ := ob hr
    refine cal_i (run_VN (As := [.ref (b0 + 190)]) (rest := []) C hV hS (c_X3_countChaptersByStrings l G b0 V q3 (kr_X8_netNumbered z_1 e3) q4 e4) (rcv hK hV (kd_lt (kr_X8_netNumbered z_1 e3) (by decide)) (cel_5 (kr_X8_netNumbered z_1 e3)) rfl) q_1405 q_1407 q_77 q_95 q_1408 dk_X3_countChaptersByStrings (rmx_ok (by decide) (by decide)) hl.1 rfl (Nat.le_of_ble_eq_true rfl) dX9_chaptersAgain_29 ⟨Nat.zero_le _, Nat.zero_le _⟩) hS (fun H locs hV hS => ?_)
    rw [← Option.some.inj hr]
    exact fin_ix C hV hS rfl dX9_chaptersAgain_32
  · have hr := it b_2 hr
    rw [← Option.some.inj hr]
    exact th_1 (ik := 193) (is := 210) (ic := 197) C hfl ht hV hS hl.1 q_470 (st_0 hK) q_480 dX9_chaptersAgain_7 dX9_chaptersAgain_10 dX9_chaptersAgain_11 dX9_chaptersAgain_13 dX9_chaptersAgain_16 (Nat.le_of_ble_eq_true rfl) (Nat.le_of_ble_eq_true rfl)
set_option maxHeartbeats 4000000 in
set_option maxRecDepth 100000 in
theorem c_X9_chapterOf (l : Launch) (hfl : l.stackTraces = false) (G : LG) (b0 : Nat) (V : St) (x1 : Int32) (x2 : Int32) (x3 : Int32) (res : Except Nat Int32) (hr : f_X9_chapterOf V x1 x2 x3 = some res) : vx_Met l yX9_chapterOf (wy yX9_chapterOf cX9_chapterOf 5 (some .int)) (rmx 6) (va_Pc [.ref (b0 + 0), .int x1, .int x2, .int x3] (Iv G b0 V)) (QIx G b0 res V) (XX G b0 (xe res) V) 1 6 (Ab b0) := by
  refine mk_x (by decide +kernel) (Nat.le_of_ble_eq_true rfl) ?_
  intro p e s m below meth c C ht hV hS ls hl
  obtain ⟨args, hargs⟩ : ∃ z, z = ([.ref (b0 + 0), .int x1, .int x2, .int x3] : List Value).toArray := ⟨_, rfl⟩
  rw [← hargs] at C ⊢
  obtain ⟨hx, hb, hrt, hml, hown, hts, hlocks, hK, hSv⟩ := id C
  have hl : lv_has ls 5 [(0, .ref (b0 + 0)), (1, .int x1), (2, .int x2), (3, .int x3)] := hl
  have K_14 : f_X9_chapterOf_b14 V = some res → ∀ (H : Heap) (locs : List Loc) (ls : Array Slot), Hd G b0 V H → va_S (Ab b0) s.heap H locs → lv_has ls 5 [] → W p l e (rmx 6) s m args below meth c H locs 0 0 (vx_MQ below (QIx G b0 res V) (XX G b0 (xe res) V) args s 1 6 (Ab b0)) (F0 m 14 ls []) := by
    intro  hr H locs ls hV hS hl
    unfold f_X9_chapterOf_b14 at hr
    rw [← Option.some.inj hr]
    exact th_1 (ik := 193) (is := 195) (ic := 197) C hfl ht hV hS hl.1 q_470 (st_30 hK) q_480 dX9_chapterOf_14 dX9_chapterOf_17 dX9_chapterOf_18 dX9_chapterOf_20 dX9_chapterOf_23 (Nat.le_of_ble_eq_true rfl) (Nat.le_of_ble_eq_true rfl)
  have K_33 : f_X9_chapterOf_b33 V = some res → ∀ (H : Heap) (locs : List Loc) (ls : Array Slot), Hd G b0 V H → va_S (Ab b0) s.heap H locs → lv_has ls 5 [] → W p l e (rmx 6) s m args below meth c H locs 0 0 (vx_MQ below (QIx G b0 res V) (XX G b0 (xe res) V) args s 1 6 (Ab b0)) (F0 m 33 ls []) := by
    intro  hr H locs ls hV hS hl
    unfold f_X9_chapterOf_b33 at hr
    rw [← Option.some.inj hr]
    exact th_3 (ik := 232) (is := 234) (ic := 236) C hfl ht hV hS hl.1 q_581 (st_1 hK) q_591 dX9_chapterOf_33 dX9_chapterOf_36 dX9_chapterOf_37 dX9_chapterOf_39 dX9_chapterOf_42 (Nat.le_of_ble_eq_true rfl) (Nat.le_of_ble_eq_true rfl)
  unfold f_X9_chapterOf at hr
  refine lv_iload_n hx hb dX9_chapterOf_0 rfl (lv_at hl 1 rfl) ?_
  obtain ⟨q1, e1, hr⟩ := ob hr
  refine cal_i (run_S (As := [.int x1]) (rest := []) C hV hS (c_X9_isNet l G b0 V x1 q1 e1) q_467 q_468 q_93 q_469 dk_X9_isNet (rmx_ok (by decide) (by decide)) hl.1 rfl (Nat.le_of_ble_eq_true rfl) dX9_chapterOf_1 ⟨Nat.zero_le _, Nat.zero_le _⟩) hS (fun H locs hV hS => ?_)
  refine lv_if_eq (tgt := 14) hx hb dX9_chapterOf_4 (by decide) (fun b_2 => ?_) (fun b_2 => ?_)
  · have hr := it b_2 hr
    exact K_14  hr _ _ ls hV hS (lv_sub hl [] rfl)
  · have hr := ie b_2 hr
    refine lv_iload_n hx hb dX9_chapterOf_7 rfl (lv_at hl 2 rfl) ?_
    obtain ⟨q3, e3, hr⟩ := ob hr
    refine cal_i (run_S (As := [.int x2]) (rest := []) C hV hS (c_X9_isPlace l G b0 V x2 q3 e3) q_616 q_617 q_93 q_618 dk_X9_isPlace (rmx_ok (by decide) (by decide)) hl.1 rfl (Nat.le_of_ble_eq_true rfl) dX9_chapterOf_8 ⟨Nat.zero_le _, Nat.zero_le _⟩) hS (fun H locs hV hS => ?_)
    refine lv_if_ne (tgt := 24) hx hb dX9_chapterOf_11 (by decide) (fun b_4 => ?_) (fun b_4 => ?_)
    · have hr := ie b_4 hr
      refine lv_iload_n hx hb dX9_chapterOf_24 rfl (lv_at hl 3 rfl) ?_
      refine lv_if_lt (tgt := 33) hx hb dX9_chapterOf_25 (by decide) (fun b_5 => ?_) (fun b_5 => ?_)
      · have hr := it b_5 hr
        exact K_33  hr _ _ ls hV hS (lv_sub hl [] rfl)
      · have hr := ie b_5 hr
        refine lv_iload_n hx hb dX9_chapterOf_28 rfl (lv_at hl 3 rfl) ?_
        refine lv_iconst (v := 3) hx hb dX9_chapterOf_29 (by decide) ?_
        refine lv_icmp_le (tgt := 43) hx hb dX9_chapterOf_30 (by decide) (fun b_6 => ?_) (fun b_6 => ?_)
        · have hr := it b_6 hr
          refine lv_aload_n hx hb dX9_chapterOf_43 rfl (lv_at hl 0 rfl) ?_
          refine g_X9_0 C hV q_339 dX9_chapterOf_44 ?_
          refine lv_iload_n hx hb dX9_chapterOf_47 rfl (lv_at hl 1 rfl) ?_
          obtain ⟨q7, e7, hr⟩ := ob hr
          refine cal_r (run_VN (As := [.int x1]) (rest := []) C hV hS (c_X8_netNumbered l G b0 V 1 z_1 x1 q7 e7) (rcv hK hV (kd_lt z_1 (by decide)) (cel_1 z_1) rfl) q_483 q_485 q_1 q_94 q_486 dk_X8_netNumbered (rmx_ok (by decide) (by decide)) hl.1 rfl (Nat.le_of_ble_eq_true rfl) dX9_chapterOf_48 ⟨Nat.zero_le _, Nat.zero_le _⟩) hS (fun H locs hV hS => ?_)
          refine lv_iload_n hx hb dX9_chapterOf_51 rfl (lv_at hl 2 rfl) ?_
          obtain ⟨q8, e8, hr⟩ := ob hr
          refine cal_i (run_VN (As := [.int x2]) (rest := []) C hV hS (c_X3_chapterAt l G b0 V q7 (kr_X8_netNumbered z_1 e7) x2 q8 e8) (rcv hK hV (kd_lt (kr_X8_netNumbered z_1 e7) (by decide)) (cel_5 (kr_X8_netNumbered z_1 e7)) rfl) q_818 q_507 q_4 q_95 q_508 dk_X3_chapterAt (rmx_ok (by decide) (by decide)) hl.1 rfl (Nat.le_of_ble_eq_true rfl) dX9_chapterOf_52 ⟨Nat.zero_le _, Nat.zero_le _⟩) hS (fun H locs hV hS => ?_)
          refine lv_istore (lv' := [(4, .int q8), (0, .ref (b0 + 0)), (1, .int x1), (2, .int x2), (3, .int x3)]) hx hb dX9_chapterOf_55 hl (by decide) rfl (fun ls hl => ?_)
          refine lv_iload hx hb dX9_chapterOf_57 (lv_at hl 0 rfl) ?_
          refine lv_if_ne (tgt := 72) hx hb dX9_chapterOf_59 (by decide) (fun b_9 => ?_) (fun b_9 => ?_)
          · have hr := ie b_9 hr
            refine lv_iload_n hx hb dX9_chapterOf_72 rfl (lv_at hl 4 rfl) ?_
            by_cases b_10 : x3 = 0
            · have hr := it b_10 hr
              refine lv_tableIn (off := 27) (tgt := 100) hx hb dX9_chapterOf_73 (by rw [b_10]; decide) (by rw [b_10]; decide) (by rw [b_10]; decide +kernel) (by decide) ?_
              refine lv_iload hx hb dX9_chapterOf_100 (lv_at hl 0 rfl) ?_
              obtain ⟨q11, e11, hr⟩ := ob hr
              refine cal_i (run_S (As := [.int q8]) (rest := []) C hV hS (c_X9_lowestPlace l G b0 V q8 q11 e11) q_1300 q_497 q_93 q_498 dk_X9_lowestPlace (rmx_ok (by decide) (by decide)) hl.1 rfl (Nat.le_of_ble_eq_true rfl) dX9_chapterOf_102 ⟨Nat.zero_le _, Nat.zero_le _⟩) hS (fun H locs hV hS => ?_)
              rw [← Option.some.inj hr]
              exact fin_ix C hV hS rfl dX9_chapterOf_105
            have hr := ie b_10 hr
            by_cases b_12 : x3 = 1
            · have hr := it b_12 hr
              refine lv_tableIn (off := 33) (tgt := 106) hx hb dX9_chapterOf_73 (by rw [b_12]; decide) (by rw [b_12]; decide) (by rw [b_12]; decide +kernel) (by decide) ?_
              refine lv_iload hx hb dX9_chapterOf_106 (lv_at hl 0 rfl) ?_
              obtain ⟨q13, e13, hr⟩ := ob hr
              refine cal_i (run_S (As := [.int q8]) (rest := []) C hV hS (c_J6_bitCount_0f7a4 l G b0 V q8 q13 e13) q_499 q_500 q_104 q_501 dk_J6_bitCount_0f7a4 (rmx_ok (by decide) (by decide)) hl.1 rfl (Nat.le_of_ble_eq_true rfl) dX9_chapterOf_108 ⟨Nat.zero_le _, Nat.zero_le _⟩) hS (fun H locs hV hS => ?_)
              rw [← Option.some.inj hr]
              exact fin_ix C hV hS rfl dX9_chapterOf_111
            have hr := ie b_12 hr
            by_cases b_14 : x3 = 2
            · have hr := it b_14 hr
              refine lv_tableIn (off := 39) (tgt := 112) hx hb dX9_chapterOf_73 (by rw [b_14]; decide) (by rw [b_14]; decide) (by rw [b_14]; decide +kernel) (by decide) ?_
              refine lv_iload hx hb dX9_chapterOf_112 (lv_at hl 0 rfl) ?_
              refine lv_aload_n hx hb dX9_chapterOf_114 rfl (lv_at hl 1 rfl) ?_
              refine g_X9_0 C hV q_339 dX9_chapterOf_115 ?_
              refine lv_iload_n hx hb dX9_chapterOf_118 rfl (lv_at hl 2 rfl) ?_
              obtain ⟨q15, e15, hr⟩ := ob hr
              refine cal_i (run_VN (As := [.int x1]) (rest := [.int q8]) C hV hS (c_X8_dryPlaces l G b0 V 1 z_1 x1 q15 e15) (rcv hK hV (kd_lt z_1 (by decide)) (cel_1 z_1) rfl) q_1247 q_787 q_42 q_94 q_788 dk_X8_dryPlaces (rmx_ok (by decide) (by decide)) hl.1 rfl (Nat.le_of_ble_eq_true rfl) dX9_chapterOf_119 ⟨Nat.zero_le _, Nat.zero_le _⟩) hS (fun H locs hV hS => ?_)
              refine lv_iand hx hb dX9_chapterOf_122 ?_
              obtain ⟨q16, e16, hr⟩ := ob hr
              refine cal_i (run_S (As := [.int (q8 &&& q15)]) (rest := []) C hV hS (c_J6_bitCount_0f7a4 l G b0 V (q8 &&& q15) q16 e16) q_499 q_500 q_104 q_501 dk_J6_bitCount_0f7a4 (rmx_ok (by decide) (by decide)) hl.1 rfl (Nat.le_of_ble_eq_true rfl) dX9_chapterOf_123 ⟨Nat.zero_le _, Nat.zero_le _⟩) hS (fun H locs hV hS => ?_)
              rw [← Option.some.inj hr]
              exact fin_ix C hV hS rfl dX9_chapterOf_126
            have hr := ie b_14 hr
            have n_10 := lv_neT (a := 0) b_10 (by decide)
            have n_12 := lv_neT (a := 1) b_12 (by decide)
            have n_14 := lv_neT (a := 2) b_14 (by decide)
            refine lv_tableOut (tgt := 127) hx hb dX9_chapterOf_73 (by omega) (by decide) ?_
            refine lv_aload_n hx hb dX9_chapterOf_127 rfl (lv_at hl 1 rfl) ?_
            refine g_X9_0 C hV q_339 dX9_chapterOf_128 ?_
            refine lv_iload_n hx hb dX9_chapterOf_131 rfl (lv_at hl 2 rfl) ?_
            obtain ⟨q17, e17, hr⟩ := ob hr
            refine cal_r (run_VN (As := [.int x1]) (rest := []) C hV hS (c_X8_netNumbered l G b0 V 1 z_1 x1 q17 e17) (rcv hK hV (kd_lt z_1 (by decide)) (cel_1 z_1) rfl) q_483 q_485 q_1 q_94 q_486 dk_X8_netNumbered (rmx_ok (by decide) (by decide)) hl.1 rfl (Nat.le_of_ble_eq_true rfl) dX9_chapterOf_132 ⟨Nat.zero_le _, Nat.zero_le _⟩) hS (fun H locs hV hS => ?_)
            refine lv_iload hx hb dX9_chapterOf_135 (lv_at hl 0 rfl) ?_
            obtain ⟨q18, e18, hr⟩ := ob hr
            refine cal_i (run_VN (As := [.int q8]) (rest := []) C hV hS (c_X3_countWholeWithin l G b0 V q17 (kr_X8_netNumbered z_1 e17) q8 q18 e18) (rcv hK hV (kd_lt (kr_X8_netNumbered z_1 e17) (by decide)) (cel_5 (kr_X8_netNumbered z_1 e17)) rfl) q_1351 q_1353 q_73 q_95 q_1354 dk_X3_countWholeWithin (rmx_ok (by decide) (by decide)) hl.1 rfl (Nat.le_of_ble_eq_true rfl) dX9_chapterOf_137 ⟨Nat.zero_le _, Nat.zero_le _⟩) hS (fun H locs hV hS => ?_)
            rw [← Option.some.inj hr]
            exact fin_ix C hV hS rfl dX9_chapterOf_140
          · have hr := it b_9 hr
            rw [← Option.some.inj hr]
            exact th_2 (ik := 202) (is := 244) (ic := 206) C hfl ht hV hS hl.1 q_1273 (st_34 hK) q_1283 dX9_chapterOf_62 dX9_chapterOf_65 dX9_chapterOf_66 dX9_chapterOf_68 dX9_chapterOf_71 (Nat.le_of_ble_eq_true rfl) (Nat.le_of_ble_eq_true rfl)
        · have hr := ie b_6 hr
          exact K_33  hr _ _ ls hV hS (lv_sub hl [] rfl)
    · have hr := it b_4 hr
      exact K_14  hr _ _ ls hV hS (lv_sub hl [] rfl)
set_option maxHeartbeats 4000000 in
set_option maxRecDepth 100000 in
theorem c_X9_noteOf (l : Launch) (hfl : l.stackTraces = false) (G : LG) (b0 : Nat) (V : St) (x1 : Int32) (x2 : Int32) (res : Except Nat Int32) (hr : f_X9_noteOf V x1 x2 = some res) : vx_Met l yX9_noteOf (wy yX9_noteOf cX9_noteOf 4 (some .int)) (rmx 6) (va_Pc [.ref (b0 + 0), .int x1, .int x2] (Iv G b0 V)) (QIx G b0 res V) (XX G b0 (xe res) V) 1 6 (Ab b0) := by
  refine mk_x (by decide +kernel) (Nat.le_of_ble_eq_true rfl) ?_
  intro p e s m below meth c C ht hV hS ls hl
  obtain ⟨args, hargs⟩ : ∃ z, z = ([.ref (b0 + 0), .int x1, .int x2] : List Value).toArray := ⟨_, rfl⟩
  rw [← hargs] at C ⊢
  obtain ⟨hx, hb, hrt, hml, hown, hts, hlocks, hK, hSv⟩ := id C
  have hl : lv_has ls 4 [(0, .ref (b0 + 0)), (1, .int x1), (2, .int x2)] := hl
  unfold f_X9_noteOf at hr
  refine lv_aload_n hx hb dX9_noteOf_0 rfl (lv_at hl 0 rfl) ?_
  refine g_X9_0 C hV q_339 dX9_noteOf_1 ?_
  refine lv_iload_n hx hb dX9_noteOf_4 rfl (lv_at hl 1 rfl) ?_
  obtain ⟨q1, e1, hr⟩ := ob hr
  refine cal_i (run_VN (As := [.int x1]) (rest := []) C hV hS (c_X8_hasNote l G b0 V 1 z_1 x1 q1 e1) (rcv hK hV (kd_lt z_1 (by decide)) (cel_1 z_1) rfl) q_839 q_841 q_49 q_94 q_842 dk_X8_hasNote (rmx_ok (by decide) (by decide)) hl.1 rfl (Nat.le_of_ble_eq_true rfl) dX9_noteOf_5 ⟨Nat.zero_le _, Nat.zero_le _⟩) hS (fun H locs hV hS => ?_)
  refine lv_if_ne (tgt := 21) hx hb dX9_noteOf_8 (by decide) (fun b_2 => ?_) (fun b_2 => ?_)
  · have hr := ie b_2 hr
    refine lv_aload_n hx hb dX9_noteOf_21 rfl (lv_at hl 0 rfl) ?_
    refine g_X9_0 C hV q_339 dX9_noteOf_22 ?_
    refine lv_iload_n hx hb dX9_noteOf_25 rfl (lv_at hl 1 rfl) ?_
    obtain ⟨q3, e3, hr⟩ := ob hr
    refine cal_r (run_VN (As := [.int x1]) (rest := []) C hV hS (c_X8_noteNumbered l G b0 V 1 z_1 x1 q3 e3) (rcv hK hV (kd_lt z_1 (by decide)) (cel_1 z_1) rfl) q_1298 q_565 q_14 q_94 q_566 dk_X8_noteNumbered (rmx_ok (by decide) (by decide)) hl.1 rfl (Nat.le_of_ble_eq_true rfl) dX9_noteOf_26 ⟨Nat.zero_le _, Nat.zero_le _⟩) hS (fun H locs hV hS => ?_)
    refine lv_astore_n (lv' := [(3, .ref (b0 + q3)), (0, .ref (b0 + 0)), (1, .int x1), (2, .int x2)]) hx hb dX9_noteOf_29 rfl hl (by decide) rfl (fun ls hl => ?_)
    refine lv_iload_n hx hb dX9_noteOf_30 rfl (lv_at hl 3 rfl) ?_
    by_cases b_4 : x2 = 0
    · have hr := it b_4 hr
      refine lv_tableIn (off := 29) (tgt := 60) hx hb dX9_noteOf_31 (by rw [b_4]; decide) (by rw [b_4]; decide) (by rw [b_4]; decide +kernel) (by decide) ?_
      refine lv_aload_n hx hb dX9_noteOf_60 rfl (lv_at hl 0 rfl) ?_
      refine gn_X4_0 (k := q3) C hV (kr_X8_noteNumbered z_1 e3) q_197 dX9_noteOf_61 ?_
      rw [← Option.some.inj hr]
      exact fin_ix C hV hS rfl dX9_noteOf_64
    have hr := ie b_4 hr
    by_cases b_5 : x2 = 1
    · have hr := it b_5 hr
      refine lv_tableIn (off := 34) (tgt := 65) hx hb dX9_noteOf_31 (by rw [b_5]; decide) (by rw [b_5]; decide) (by rw [b_5]; decide +kernel) (by decide) ?_
      refine lv_aload_n hx hb dX9_noteOf_65 rfl (lv_at hl 0 rfl) ?_
      obtain ⟨q6, e6, hr⟩ := ob hr
      refine cal_i (run_VN (As := []) (rest := []) C hV hS (c_X4_places l G b0 V q3 (kr_X8_noteNumbered z_1 e3) q6 e6) (rcv hK hV (kd_lt (kr_X8_noteNumbered z_1 e3) (by decide)) (cel_7 (kr_X8_noteNumbered z_1 e3)) rfl) q_1299 q_573 q_16 q_97 q_574 dk_X4_places (rmx_ok (by decide) (by decide)) hl.1 rfl (Nat.le_of_ble_eq_true rfl) dX9_noteOf_66 ⟨Nat.zero_le _, Nat.zero_le _⟩) hS (fun H locs hV hS => ?_)
      obtain ⟨q7, e7, hr⟩ := ob hr
      refine cal_i (run_S (As := [.int q6]) (rest := []) C hV hS (c_X9_lowestPlace l G b0 V q6 q7 e7) q_1300 q_497 q_93 q_498 dk_X9_lowestPlace (rmx_ok (by decide) (by decide)) hl.1 rfl (Nat.le_of_ble_eq_true rfl) dX9_noteOf_69 ⟨Nat.zero_le _, Nat.zero_le _⟩) hS (fun H locs hV hS => ?_)
      rw [← Option.some.inj hr]
      exact fin_ix C hV hS rfl dX9_noteOf_72
    have hr := ie b_5 hr
    by_cases b_8 : x2 = 2
    · have hr := it b_8 hr
      refine lv_tableIn (off := 42) (tgt := 73) hx hb dX9_noteOf_31 (by rw [b_8]; decide) (by rw [b_8]; decide) (by rw [b_8]; decide +kernel) (by decide) ?_
      refine lv_aload_n hx hb dX9_noteOf_73 rfl (lv_at hl 0 rfl) ?_
      obtain ⟨q9, e9, hr⟩ := ob hr
      refine cal_i (run_VN (As := []) (rest := []) C hV hS (c_X4_places l G b0 V q3 (kr_X8_noteNumbered z_1 e3) q9 e9) (rcv hK hV (kd_lt (kr_X8_noteNumbered z_1 e3) (by decide)) (cel_7 (kr_X8_noteNumbered z_1 e3)) rfl) q_1299 q_573 q_16 q_97 q_574 dk_X4_places (rmx_ok (by decide) (by decide)) hl.1 rfl (Nat.le_of_ble_eq_true rfl) dX9_noteOf_74 ⟨Nat.zero_le _, Nat.zero_le _⟩) hS (fun H locs hV hS => ?_)
      obtain ⟨q10, e10, hr⟩ := ob hr
      refine cal_i (run_S (As := [.int q9]) (rest := []) C hV hS (c_J6_bitCount_0f7a4 l G b0 V q9 q10 e10) q_499 q_500 q_104 q_501 dk_J6_bitCount_0f7a4 (rmx_ok (by decide) (by decide)) hl.1 rfl (Nat.le_of_ble_eq_true rfl) dX9_noteOf_77 ⟨Nat.zero_le _, Nat.zero_le _⟩) hS (fun H locs hV hS => ?_)
      rw [← Option.some.inj hr]
      exact fin_ix C hV hS rfl dX9_noteOf_80
    have hr := ie b_8 hr
    by_cases b_11 : x2 = 3
    · have hr := it b_11 hr
      refine lv_tableIn (off := 50) (tgt := 81) hx hb dX9_noteOf_31 (by rw [b_11]; decide) (by rw [b_11]; decide) (by rw [b_11]; decide +kernel) (by decide) ?_
      refine lv_aload_n hx hb dX9_noteOf_81 rfl (lv_at hl 1 rfl) ?_
      refine g_X9_0 C hV q_339 dX9_noteOf_82 ?_
      refine lv_aload_n hx hb dX9_noteOf_85 rfl (lv_at hl 0 rfl) ?_
      obtain ⟨q12, e12, hr⟩ := ob hr
      refine cal_i (run_VN (As := [.ref (b0 + q3)]) (rest := []) C hV hS (c_X8_readsAsNoted l G b0 V 1 z_1 q3 (kr_X8_noteNumbered z_1 e3) q12 e12) (rcv hK hV (kd_lt z_1 (by decide)) (cel_1 z_1) rfl) q_1301 q_569 q_15 q_94 q_570 dk_X8_readsAsNoted (rmx_ok (by decide) (by decide)) hl.1 rfl (Nat.le_of_ble_eq_true rfl) dX9_noteOf_86 ⟨Nat.zero_le _, Nat.zero_le _⟩) hS (fun H locs hV hS => ?_)
      refine lv_if_eq (tgt := 96) hx hb dX9_noteOf_89 (by decide) (fun b_13 => ?_) (fun b_13 => ?_)
      · have hr := it b_13 hr
        refine lv_iconst (v := 0) hx hb dX9_noteOf_96 (by decide) ?_
        rw [← Option.some.inj hr]
        exact fin_ix C hV hS rfl dX9_noteOf_97
      · have hr := ie b_13 hr
        refine lv_iconst (v := 1) hx hb dX9_noteOf_92 (by decide) ?_
        refine lv_goto (tgt := 97) hx hb dX9_noteOf_93 (by decide) ?_
        rw [← Option.some.inj hr]
        exact fin_ix C hV hS rfl dX9_noteOf_97
    have hr := ie b_11 hr
    have n_4 := lv_neT (a := 0) b_4 (by decide)
    have n_5 := lv_neT (a := 1) b_5 (by decide)
    have n_8 := lv_neT (a := 2) b_8 (by decide)
    have n_11 := lv_neT (a := 3) b_11 (by decide)
    refine lv_tableOut (tgt := 98) hx hb dX9_noteOf_31 (by omega) (by decide) ?_
    rw [← Option.some.inj hr]
    exact th_3 (ik := 232) (is := 234) (ic := 236) C hfl ht hV hS hl.1 q_581 (st_1 hK) q_591 dX9_noteOf_98 dX9_noteOf_101 dX9_noteOf_102 dX9_noteOf_104 dX9_noteOf_107 (Nat.le_of_ble_eq_true rfl) (Nat.le_of_ble_eq_true rfl)
  · have hr := it b_2 hr
    rw [← Option.some.inj hr]
    exact th_1 (ik := 193) (is := 255) (ic := 197) C hfl ht hV hS hl.1 q_470 (st_32 hK) q_480 dX9_noteOf_11 dX9_noteOf_14 dX9_noteOf_15 dX9_noteOf_17 dX9_noteOf_20 (Nat.le_of_ble_eq_true rfl) (Nat.le_of_ble_eq_true rfl)
set_option maxHeartbeats 4000000 in
set_option maxRecDepth 100000 in
theorem c_X9_least (l : Launch) (hfl : l.stackTraces = false) (G : LG) (b0 : Nat) (V : St) (x1 : Int32) (res : (Except Nat Int32) × St) (hr : f_X9_least V x1 = some res) : vx_Met l yX9_least (wy yX9_least cX9_least 3 (some .int)) (rmx 6) (va_Pc [.ref (b0 + 0), .int x1] (Iv G b0 V)) (QIx G b0 res.1 res.2) (XX G b0 (xe res.1) res.2) 1 6 (Ab b0) := by
  refine mk_x (by decide +kernel) (Nat.le_of_ble_eq_true rfl) ?_
  intro p e s m below meth c C ht hV hS ls hl
  obtain ⟨args, hargs⟩ : ∃ z, z = ([.ref (b0 + 0), .int x1] : List Value).toArray := ⟨_, rfl⟩
  rw [← hargs] at C ⊢
  obtain ⟨hx, hb, hrt, hml, hown, hts, hlocks, hK, hSv⟩ := id C
  have hl : lv_has ls 3 [(0, .ref (b0 + 0)), (1, .int x1)] := hl
  unfold f_X9_least at hr
  refine lv_aload_n hx hb dX9_least_0 rfl (lv_at hl 0 rfl) ?_
  refine g_X9_0 C hV q_339 dX9_least_1 ?_
  refine lv_iload_n hx hb dX9_least_4 rfl (lv_at hl 1 rfl) ?_
  obtain ⟨q1, e1, hr⟩ := ob hr
  refine cal_i (run_VN (As := [.int x1]) (rest := []) C hV hS (c_X8_hasNote l G b0 V 1 z_1 x1 q1 e1) (rcv hK hV (kd_lt z_1 (by decide)) (cel_1 z_1) rfl) q_839 q_841 q_49 q_94 q_842 dk_X8_hasNote (rmx_ok (by decide) (by decide)) hl.1 rfl (Nat.le_of_ble_eq_true rfl) dX9_least_5 ⟨Nat.zero_le _, Nat.zero_le _⟩) hS (fun H locs hV hS => ?_)
  refine lv_if_ne (tgt := 21) hx hb dX9_least_8 (by decide) (fun b_2 => ?_) (fun b_2 => ?_)
  · have hr := ie b_2 hr
    refine lv_aload_n hx hb dX9_least_21 rfl (lv_at hl 0 rfl) ?_
    refine g_X9_0 C hV q_339 dX9_least_22 ?_
    refine lv_iload_n hx hb dX9_least_25 rfl (lv_at hl 1 rfl) ?_
    obtain ⟨q3, e3, hr⟩ := ob hr
    refine cal_r (run_VN (As := [.int x1]) (rest := []) C hV hS (c_X8_noteNumbered l G b0 V 1 z_1 x1 q3 e3) (rcv hK hV (kd_lt z_1 (by decide)) (cel_1 z_1) rfl) q_1298 q_565 q_14 q_94 q_566 dk_X8_noteNumbered (rmx_ok (by decide) (by decide)) hl.1 rfl (Nat.le_of_ble_eq_true rfl) dX9_least_26 ⟨Nat.zero_le _, Nat.zero_le _⟩) hS (fun H locs hV hS => ?_)
    refine lv_astore_n (lv' := [(2, .ref (b0 + q3)), (0, .ref (b0 + 0)), (1, .int x1)]) hx hb dX9_least_29 rfl hl (by decide) rfl (fun ls hl => ?_)
    refine lv_aload_n hx hb dX9_least_30 rfl (lv_at hl 1 rfl) ?_
    refine g_X9_0 C hV q_339 dX9_least_31 ?_
    refine lv_aload_n hx hb dX9_least_34 rfl (lv_at hl 0 rfl) ?_
    obtain ⟨q4, e4, hr⟩ := ob hr
    refine cal_i (run_VN (As := [.ref (b0 + q3)]) (rest := []) C hV hS (c_X8_canBeMended l G b0 V 1 z_1 q3 (kr_X8_noteNumbered z_1 e3) q4 e4) (rcv hK hV (kd_lt z_1 (by decide)) (cel_1 z_1) rfl) q_1445 q_1447 q_82 q_94 q_1448 dk_X8_canBeMended (rmx_ok (by decide) (by decide)) hl.1 rfl (Nat.le_of_ble_eq_true rfl) dX9_least_35 ⟨Nat.zero_le _, Nat.zero_le _⟩) hS (fun H locs hV hS => ?_)
    refine lv_if_ne (tgt := 52) hx hb dX9_least_38 (by decide) (fun b_5 => ?_) (fun b_5 => ?_)
    · have hr := ie b_5 hr
      refine lv_aload_n hx hb dX9_least_52 rfl (lv_at hl 1 rfl) ?_
      refine g_X9_0 C hV q_339 dX9_least_53 ?_
      refine lv_aload_n hx hb dX9_least_56 rfl (lv_at hl 0 rfl) ?_
      refine lv_aload_n hx hb dX9_least_57 rfl (lv_at hl 1 rfl) ?_
      refine g_X9_5 C hV q_344 dX9_least_58 ?_
      obtain ⟨q6, e6, hr⟩ := ob hr
      refine cal_i (run_VN (As := [.ref (b0 + q3), .ref (b0 + 190)]) (rest := []) C hV hS (c_X8_leastByStrings l G b0 V 1 z_1 q3 (kr_X8_noteNumbered z_1 e3) q6 e6) (rcv hK hV (kd_lt z_1 (by decide)) (cel_1 z_1) rfl) q_1454 q_1456 q_84 q_94 q_1457 dk_X8_leastByStrings (rmx_ok (by decide) (by decide)) hl.1 rfl (Nat.le_of_ble_eq_true rfl) dX9_least_61 ⟨Nat.zero_le _, Nat.zero_le _⟩) hS (fun H locs hV hS => ?_)
      rw [← Option.some.inj hr]
      exact fin_ix C hV hS rfl dX9_least_64
    · have hr := it b_5 hr
      rw [← Option.some.inj hr]
      exact th_w2 (ik := 202) (is := 276) (ic := 206) C hfl ht hV hS hl.1 q_1273 (st_38 hK) q_1283 dX9_least_41 dX9_least_44 dX9_least_45 dX9_least_48 dX9_least_51 (Nat.le_of_ble_eq_true rfl) (Nat.le_of_ble_eq_true rfl)
  · have hr := it b_2 hr
    rw [← Option.some.inj hr]
    exact th_1 (ik := 193) (is := 255) (ic := 197) C hfl ht hV hS hl.1 q_470 (st_32 hK) q_480 dX9_least_11 dX9_least_14 dX9_least_15 dX9_least_17 dX9_least_20 (Nat.le_of_ble_eq_true rfl) (Nat.le_of_ble_eq_true rfl)
set_option maxHeartbeats 4000000 in
set_option maxRecDepth 100000 in
theorem c_X9_leastAgain (l : Launch) (hfl : l.stackTraces = false) (G : LG) (b0 : Nat) (V : St) (x1 : Int32) (res : Except Nat Int32) (hr : f_X9_leastAgain V x1 = some res) : vx_Met l yX9_leastAgain (wy yX9_leastAgain cX9_leastAgain 3 (some .int)) (rmx 6) (va_Pc [.ref (b0 + 0), .int x1] (Iv G b0 V)) (QIx G b0 res V) (XX G b0 (xe res) V) 1 6 (Ab b0) := by
  refine mk_x (by decide +kernel) (Nat.le_of_ble_eq_true rfl) ?_
  intro p e s m below meth c C ht hV hS ls hl
  obtain ⟨args, hargs⟩ : ∃ z, z = ([.ref (b0 + 0), .int x1] : List Value).toArray := ⟨_, rfl⟩
  rw [← hargs] at C ⊢
  obtain ⟨hx, hb, hrt, hml, hown, hts, hlocks, hK, hSv⟩ := id C
  have hl : lv_has ls 3 [(0, .ref (b0 + 0)), (1, .int x1)] := hl
  unfold f_X9_leastAgain at hr
  refine lv_aload_n hx hb dX9_leastAgain_0 rfl (lv_at hl 0 rfl) ?_
  refine g_X9_0 C hV q_339 dX9_leastAgain_1 ?_
  refine lv_iload_n hx hb dX9_leastAgain_4 rfl (lv_at hl 1 rfl) ?_
  obtain ⟨q1, e1, hr⟩ := ob hr
  refine cal_i (run_VN (As := [.int x1]) (rest := []) C hV hS (c_X8_hasNote l G b0 V 1 z_1 x1 q1 e1) (rcv hK hV (kd_lt z_1 (by decide)) (cel_1 z_1) rfl) q_839 q_841 q_49 q_94 q_842 dk_X8_hasNote (rmx_ok (by decide) (by decide)) hl.1 rfl (Nat.le_of_ble_eq_true rfl) dX9_leastAgain_5 ⟨Nat.zero_le _, Nat.zero_le _⟩) hS (fun H locs hV hS => ?_)
  refine lv_if_ne (tgt := 21) hx hb dX9_leastAgain_8 (by decide) (fun b_2 => ?_) (fun b_2 => ?_)
  · have hr := ie b_2 hr
    refine lv_aload_n hx hb dX9_leastAgain_21 rfl (lv_at hl 0 rfl) ?_
    refine g_X9_0 C hV q_339 dX9_leastAgain_22 ?_
    refine lv_iload_n hx hb dX9_leastAgain_25 rfl (lv_at hl 1 rfl) ?_
    obtain ⟨q3, e3, hr⟩ := ob hr
    refine cal_r (run_VN (As := [.int x1]) (rest := []) C hV hS (c_X8_noteNumbered l G b0 V 1 z_1 x1 q3 e3) (rcv hK hV (kd_lt z_1 (by decide)) (cel_1 z_1) rfl) q_1298 q_565 q_14 q_94 q_566 dk_X8_noteNumbered (rmx_ok (by decide) (by decide)) hl.1 rfl (Nat.le_of_ble_eq_true rfl) dX9_leastAgain_26 ⟨Nat.zero_le _, Nat.zero_le _⟩) hS (fun H locs hV hS => ?_)
    refine lv_astore_n (lv' := [(2, .ref (b0 + q3)), (0, .ref (b0 + 0)), (1, .int x1)]) hx hb dX9_leastAgain_29 rfl hl (by decide) rfl (fun ls hl => ?_)
    refine lv_aload_n hx hb dX9_leastAgain_30 rfl (lv_at hl 1 rfl) ?_
    refine g_X9_0 C hV q_339 dX9_leastAgain_31 ?_
    refine lv_aload_n hx hb dX9_leastAgain_34 rfl (lv_at hl 0 rfl) ?_
    obtain ⟨q4, e4, hr⟩ := ob hr
    refine cal_i (run_VN (As := [.ref (b0 + q3)]) (rest := []) C hV hS (c_X8_canBeMended l G b0 V 1 z_1 q3 (kr_X8_noteNumbered z_1 e3) q4 e4) (rcv hK hV (kd_lt z_1 (by decide)) (cel_1 z_1) rfl) q_1445 q_1447 q_82 q_94 q_1448 dk_X8_canBeMended (rmx_ok (by decide) (by decide)) hl.1 rfl (Nat.le_of_ble_eq_true rfl) dX9_leastAgain_35 ⟨Nat.zero_le _, Nat.zero_le _⟩) hS (fun H locs hV hS => ?_)
    refine lv_if_ne (tgt := 52) hx hb dX9_leastAgain_38 (by decide) (fun b_5 => ?_) (fun b_5 => ?_)
    · have hr := ie b_5 hr
      refine lv_aload_n hx hb dX9_leastAgain_52 rfl (lv_at hl 1 rfl) ?_
      refine g_X9_0 C hV q_339 dX9_leastAgain_53 ?_
      refine lv_aload_n hx hb dX9_leastAgain_56 rfl (lv_at hl 0 rfl) ?_
      obtain ⟨q6, e6, hr⟩ := ob hr
      refine cal_i (run_VN (As := [.ref (b0 + q3)]) (rest := []) C hV hS (c_X8_leastByPlaces l G b0 V 1 z_1 q3 (kr_X8_noteNumbered z_1 e3) q6 e6) (rcv hK hV (kd_lt z_1 (by decide)) (cel_1 z_1) rfl) q_1469 q_1471 q_86 q_94 q_1472 dk_X8_leastByPlaces (rmx_ok (by decide) (by decide)) hl.1 rfl (Nat.le_of_ble_eq_true rfl) dX9_leastAgain_57 ⟨Nat.zero_le _, Nat.zero_le _⟩) hS (fun H locs hV hS => ?_)
      rw [← Option.some.inj hr]
      exact fin_ix C hV hS rfl dX9_leastAgain_60
    · have hr := it b_5 hr
      rw [← Option.some.inj hr]
      exact th_w2 (ik := 202) (is := 276) (ic := 206) C hfl ht hV hS hl.1 q_1273 (st_38 hK) q_1283 dX9_leastAgain_41 dX9_leastAgain_44 dX9_leastAgain_45 dX9_leastAgain_48 dX9_leastAgain_51 (Nat.le_of_ble_eq_true rfl) (Nat.le_of_ble_eq_true rfl)
  · have hr := it b_2 hr
    rw [← Option.some.inj hr]
    exact th_1 (ik := 193) (is := 255) (ic := 197) C hfl ht hV hS hl.1 q_470 (st_32 hK) q_480 dX9_leastAgain_11 dX9_leastAgain_14 dX9_leastAgain_15 dX9_leastAgain_17 dX9_leastAgain_20 (Nat.le_of_ble_eq_true rfl) (Nat.le_of_ble_eq_true rfl)
set_option maxHeartbeats 4000000 in
set_option maxRecDepth 100000 in
theorem c_X9_bestMend (l : Launch) (hfl : l.stackTraces = false) (G : LG) (b0 : Nat) (V : St) (x1 : Int32) (x2 : Int32) (res : Except Nat Int32) (hr : f_X9_bestMend V x1 x2 = some res) : vx_Met l yX9_bestMend (wy yX9_bestMend cX9_bestMend 4 (some .int)) (rmx 6) (va_Pc [.ref (b0 + 0), .int x1, .int x2] (Iv G b0 V)) (QIx G b0 res V) (XX G b0 (xe res) V) 1 6 (Ab b0) := by
  refine mk_x (by decide +kernel) (Nat.le_of_ble_eq_true rfl) ?_
  intro p e s m below meth c C ht hV hS ls hl
  obtain ⟨args, hargs⟩ : ∃ z, z = ([.ref (b0 + 0), .int x1, .int x2] : List Value).toArray := ⟨_, rfl⟩
  rw [← hargs] at C ⊢
  obtain ⟨hx, hb, hrt, hml, hown, hts, hlocks, hK, hSv⟩ := id C
  have hl : lv_has ls 4 [(0, .ref (b0 + 0)), (1, .int x1), (2, .int x2)] := hl
  unfold f_X9_bestMend at hr
  refine lv_iload_n hx hb dX9_bestMend_0 rfl (lv_at hl 1 rfl) ?_
  obtain ⟨q1, e1, hr⟩ := ob hr
  refine cal_i (run_S (As := [.int x1]) (rest := []) C hV hS (c_X9_isNet l G b0 V x1 q1 e1) q_467 q_468 q_93 q_469 dk_X9_isNet (rmx_ok (by decide) (by decide)) hl.1 rfl (Nat.le_of_ble_eq_true rfl) dX9_bestMend_1 ⟨Nat.zero_le _, Nat.zero_le _⟩) hS (fun H locs hV hS => ?_)
  refine lv_if_ne (tgt := 17) hx hb dX9_bestMend_4 (by decide) (fun b_2 => ?_) (fun b_2 => ?_)
  · have hr := ie b_2 hr
    refine lv_aload_n hx hb dX9_bestMend_17 rfl (lv_at hl 0 rfl) ?_
    refine g_X9_0 C hV q_339 dX9_bestMend_18 ?_
    refine lv_iload_n hx hb dX9_bestMend_21 rfl (lv_at hl 1 rfl) ?_
    obtain ⟨q3, e3, hr⟩ := ob hr
    refine cal_r (run_VN (As := [.int x1]) (rest := []) C hV hS (c_X8_netNumbered l G b0 V 1 z_1 x1 q3 e3) (rcv hK hV (kd_lt z_1 (by decide)) (cel_1 z_1) rfl) q_483 q_485 q_1 q_94 q_486 dk_X8_netNumbered (rmx_ok (by decide) (by decide)) hl.1 rfl (Nat.le_of_ble_eq_true rfl) dX9_bestMend_22 ⟨Nat.zero_le _, Nat.zero_le _⟩) hS (fun H locs hV hS => ?_)
    refine lv_iload_n hx hb dX9_bestMend_25 rfl (lv_at hl 2 rfl) ?_
    obtain ⟨q4, e4, hr⟩ := ob hr
    refine cal_i (run_VN (As := [.int x2]) (rest := []) C hV hS (c_X3_bestTornString l G b0 V q3 (kr_X8_netNumbered z_1 e3) x2 q4 e4) (rcv hK hV (kd_lt (kr_X8_netNumbered z_1 e3) (by decide)) (cel_5 (kr_X8_netNumbered z_1 e3)) rfl) q_1386 q_1388 q_75 q_95 q_1389 dk_X3_bestTornString (rmx_ok (by decide) (by decide)) hl.1 rfl (Nat.le_of_ble_eq_true rfl) dX9_bestMend_26 ⟨Nat.zero_le _, Nat.zero_le _⟩) hS (fun H locs hV hS => ?_)
    refine lv_istore_n (lv' := [(3, .int q4), (0, .ref (b0 + 0)), (1, .int x1), (2, .int x2)]) hx hb dX9_bestMend_29 rfl hl (by decide) rfl (fun ls hl => ?_)
    refine lv_iload_n hx hb dX9_bestMend_30 rfl (lv_at hl 0 rfl) ?_
    refine lv_iconst (v := (-1)) hx hb dX9_bestMend_31 (by decide) ?_
    refine lv_icmp_ne (tgt := 46) hx hb dX9_bestMend_32 (by decide) (fun b_5 => ?_) (fun b_5 => ?_)
    · have hr := ie b_5 hr
      refine lv_iload_n hx hb dX9_bestMend_46 rfl (lv_at hl 0 rfl) ?_
      rw [← Option.some.inj hr]
      exact fin_ix C hV hS rfl dX9_bestMend_47
    · have hr := it b_5 hr
      rw [← Option.some.inj hr]
      exact th_w2 (ik := 202) (is := 290) (ic := 206) C hfl ht hV hS hl.1 q_1273 (st_36 hK) q_1283 dX9_bestMend_35 dX9_bestMend_38 dX9_bestMend_39 dX9_bestMend_42 dX9_bestMend_45 (Nat.le_of_ble_eq_true rfl) (Nat.le_of_ble_eq_true rfl)
  · have hr := it b_2 hr
    rw [← Option.some.inj hr]
    exact th_1 (ik := 193) (is := 210) (ic := 197) C hfl ht hV hS hl.1 q_470 (st_0 hK) q_480 dX9_bestMend_7 dX9_bestMend_10 dX9_bestMend_11 dX9_bestMend_13 dX9_bestMend_16 (Nat.le_of_ble_eq_true rfl) (Nat.le_of_ble_eq_true rfl)
set_option maxHeartbeats 4000000 in
set_option maxRecDepth 100000 in
theorem c_X9_ranked (l : Launch) (hfl : l.stackTraces = false) (G : LG) (b0 : Nat) (V : St) (x1 : Int32) (x2 : Int32) (res : Except Nat Int32) (hr : f_X9_ranked V x1 x2 = some res) : vx_Met l yX9_ranked (wy yX9_ranked cX9_ranked 4 (some .int)) (rmx 6) (va_Pc [.ref (b0 + 0), .int x1, .int x2] (Iv G b0 V)) (QIx G b0 res V) (XX G b0 (xe res) V) 1 6 (Ab b0) := by
  refine mk_x (by decide +kernel) (Nat.le_of_ble_eq_true rfl) ?_
  intro p e s m below meth c C ht hV hS ls hl
  obtain ⟨args, hargs⟩ : ∃ z, z = ([.ref (b0 + 0), .int x1, .int x2] : List Value).toArray := ⟨_, rfl⟩
  rw [← hargs] at C ⊢
  obtain ⟨hx, hb, hrt, hml, hown, hts, hlocks, hK, hSv⟩ := id C
  have hl : lv_has ls 4 [(0, .ref (b0 + 0)), (1, .int x1), (2, .int x2)] := hl
  unfold f_X9_ranked at hr
  refine lv_iload_n hx hb dX9_ranked_0 rfl (lv_at hl 1 rfl) ?_
  obtain ⟨q1, e1, hr⟩ := ob hr
  refine cal_i (run_S (As := [.int x1]) (rest := []) C hV hS (c_X9_isNet l G b0 V x1 q1 e1) q_467 q_468 q_93 q_469 dk_X9_isNet (rmx_ok (by decide) (by decide)) hl.1 rfl (Nat.le_of_ble_eq_true rfl) dX9_ranked_1 ⟨Nat.zero_le _, Nat.zero_le _⟩) hS (fun H locs hV hS => ?_)
  refine lv_if_ne (tgt := 17) hx hb dX9_ranked_4 (by decide) (fun b_2 => ?_) (fun b_2 => ?_)
  · have hr := ie b_2 hr
    refine lv_aload_n hx hb dX9_ranked_17 rfl (lv_at hl 0 rfl) ?_
    refine g_X9_0 C hV q_339 dX9_ranked_18 ?_
    refine lv_iload_n hx hb dX9_ranked_21 rfl (lv_at hl 1 rfl) ?_
    obtain ⟨q3, e3, hr⟩ := ob hr
    refine cal_r (run_VN (As := [.int x1]) (rest := []) C hV hS (c_X8_netNumbered l G b0 V 1 z_1 x1 q3 e3) (rcv hK hV (kd_lt z_1 (by decide)) (cel_1 z_1) rfl) q_483 q_485 q_1 q_94 q_486 dk_X8_netNumbered (rmx_ok (by decide) (by decide)) hl.1 rfl (Nat.le_of_ble_eq_true rfl) dX9_ranked_22 ⟨Nat.zero_le _, Nat.zero_le _⟩) hS (fun H locs hV hS => ?_)
    refine lv_iload_n hx hb dX9_ranked_25 rfl (lv_at hl 2 rfl) ?_
    obtain ⟨q4, e4, hr⟩ := ob hr
    refine cal_i (run_VN (As := [.int x2]) (rest := []) C hV hS (c_X3_chapterRanked l G b0 V q3 (kr_X8_netNumbered z_1 e3) x2 q4 e4) (rcv hK hV (kd_lt (kr_X8_netNumbered z_1 e3) (by decide)) (cel_5 (kr_X8_netNumbered z_1 e3)) rfl) q_1373 q_1375 q_74 q_95 q_1376 dk_X3_chapterRanked (rmx_ok (by decide) (by decide)) hl.1 rfl (Nat.le_of_ble_eq_true rfl) dX9_ranked_26 ⟨Nat.zero_le _, Nat.zero_le _⟩) hS (fun H locs hV hS => ?_)
    refine lv_istore_n (lv' := [(3, .int q4), (0, .ref (b0 + 0)), (1, .int x1), (2, .int x2)]) hx hb dX9_ranked_29 rfl hl (by decide) rfl (fun ls hl => ?_)
    refine lv_iload_n hx hb dX9_ranked_30 rfl (lv_at hl 0 rfl) ?_
    refine lv_if_ne (tgt := 45) hx hb dX9_ranked_31 (by decide) (fun b_5 => ?_) (fun b_5 => ?_)
    · have hr := ie b_5 hr
      refine lv_iload_n hx hb dX9_ranked_45 rfl (lv_at hl 0 rfl) ?_
      obtain ⟨q6, e6, hr⟩ := ob hr
      refine cal_i (run_S (As := [.int q4]) (rest := []) C hV hS (c_X9_lowestPlace l G b0 V q4 q6 e6) q_1300 q_497 q_93 q_498 dk_X9_lowestPlace (rmx_ok (by decide) (by decide)) hl.1 rfl (Nat.le_of_ble_eq_true rfl) dX9_ranked_46 ⟨Nat.zero_le _, Nat.zero_le _⟩) hS (fun H locs hV hS => ?_)
      rw [← Option.some.inj hr]
      exact fin_ix C hV hS rfl dX9_ranked_49
    · have hr := it b_5 hr
      rw [← Option.some.inj hr]
      exact th_w2 (ik := 202) (is := 295) (ic := 206) C hfl ht hV hS hl.1 q_1273 (st_35 hK) q_1283 dX9_ranked_34 dX9_ranked_37 dX9_ranked_38 dX9_ranked_41 dX9_ranked_44 (Nat.le_of_ble_eq_true rfl) (Nat.le_of_ble_eq_true rfl)
  · have hr := it b_2 hr
    rw [← Option.some.inj hr]
    exact th_1 (ik := 193) (is := 210) (ic := 197) C hfl ht hV hS hl.1 q_470 (st_0 hK) q_480 dX9_ranked_7 dX9_ranked_10 dX9_ranked_11 dX9_ranked_13 dX9_ranked_16 (Nat.le_of_ble_eq_true rfl) (Nat.le_of_ble_eq_true rfl)
set_option maxHeartbeats 4000000 in
set_option maxRecDepth 100000 in
theorem c_X9_editorOf (l : Launch) (hfl : l.stackTraces = false) (G : LG) (b0 : Nat) (V : St) (x1 : Int32) (x2 : Int32) (res : Except Nat Int32) (hr : f_X9_editorOf V x1 x2 = some res) : vx_Met l yX9_editorOf (wy yX9_editorOf cX9_editorOf 3 (some .int)) (rmx 6) (va_Pc [.ref (b0 + 0), .int x1, .int x2] (Iv G b0 V)) (QIx G b0 res V) (XX G b0 (xe res) V) 1 6 (Ab b0) := by
  refine mk_x (by decide +kernel) (Nat.le_of_ble_eq_true rfl) ?_
  intro p e s m below meth c C ht hV hS ls hl
  obtain ⟨args, hargs⟩ : ∃ z, z = ([.ref (b0 + 0), .int x1, .int x2] : List Value).toArray := ⟨_, rfl⟩
  rw [← hargs] at C ⊢
  obtain ⟨hx, hb, hrt, hml, hown, hts, hlocks, hK, hSv⟩ := id C
  have hl : lv_has ls 3 [(0, .ref (b0 + 0)), (1, .int x1), (2, .int x2)] := hl
  unfold f_X9_editorOf at hr
  refine lv_aload_n hx hb dX9_editorOf_0 rfl (lv_at hl 0 rfl) ?_
  refine g_X9_0 C hV q_339 dX9_editorOf_1 ?_
  refine lv_iload_n hx hb dX9_editorOf_4 rfl (lv_at hl 1 rfl) ?_
  obtain ⟨q1, e1, hr⟩ := ob hr
  refine cal_i (run_VN (As := [.int x1]) (rest := []) C hV hS (c_X8_hasEditor l G b0 V 1 z_1 x1 q1 e1) (rcv hK hV (kd_lt z_1 (by decide)) (cel_1 z_1) rfl) q_738 q_740 q_36 q_94 q_741 dk_X8_hasEditor (rmx_ok (by decide) (by decide)) hl.1 rfl (Nat.le_of_ble_eq_true rfl) dX9_editorOf_5 ⟨Nat.zero_le _, Nat.zero_le _⟩) hS (fun H locs hV hS => ?_)
  refine lv_if_ne (tgt := 22) hx hb dX9_editorOf_8 (by decide) (fun b_2 => ?_) (fun b_2 => ?_)
  · have hr := ie b_2 hr
    refine lv_iload_n hx hb dX9_editorOf_22 rfl (lv_at hl 2 rfl) ?_
    by_cases b_3 : x2 = 0
    · have hr := it b_3 hr
      refine lv_lookup (off := 25) (tgt := 48) hx hb dX9_editorOf_23 (by decide +kernel) (by rw [b_3]; decide +kernel) (by decide) ?_
      refine lv_aload_n hx hb dX9_editorOf_48 rfl (lv_at hl 0 rfl) ?_
      refine g_X9_0 C hV q_339 dX9_editorOf_49 ?_
      refine lv_iload_n hx hb dX9_editorOf_52 rfl (lv_at hl 1 rfl) ?_
      obtain ⟨q4, e4, hr⟩ := ob hr
      refine cal_r (run_VN (As := [.int x1]) (rest := []) C hV hS (c_X8_editorNumbered l G b0 V 1 z_1 x1 q4 e4) (rcv hK hV (kd_lt z_1 (by decide)) (cel_1 z_1) rfl) q_742 q_557 q_12 q_94 q_558 dk_X8_editorNumbered (rmx_ok (by decide) (by decide)) hl.1 rfl (Nat.le_of_ble_eq_true rfl) dX9_editorOf_53 ⟨Nat.zero_le _, Nat.zero_le _⟩) hS (fun H locs hV hS => ?_)
      refine gn_X0_0 (k := q4) C hV (kr_X8_editorNumbered z_1 e4) q_180 dX9_editorOf_56 ?_
      rw [← Option.some.inj hr]
      exact fin_ix C hV hS rfl dX9_editorOf_59
    have hr := ie b_3 hr
    by_cases b_5 : x2 = 1
    · have hr := it b_5 hr
      refine lv_lookup (off := 37) (tgt := 60) hx hb dX9_editorOf_23 (by decide +kernel) (by rw [b_5]; decide +kernel) (by decide) ?_
      refine lv_aload_n hx hb dX9_editorOf_60 rfl (lv_at hl 0 rfl) ?_
      refine g_X9_0 C hV q_339 dX9_editorOf_61 ?_
      refine lv_iload_n hx hb dX9_editorOf_64 rfl (lv_at hl 1 rfl) ?_
      obtain ⟨q6, e6, hr⟩ := ob hr
      refine cal_r (run_VN (As := [.int x1]) (rest := []) C hV hS (c_X8_editorNumbered l G b0 V 1 z_1 x1 q6 e6) (rcv hK hV (kd_lt z_1 (by decide)) (cel_1 z_1) rfl) q_742 q_557 q_12 q_94 q_558 dk_X8_editorNumbered (rmx_ok (by decide) (by decide)) hl.1 rfl (Nat.le_of_ble_eq_true rfl) dX9_editorOf_65 ⟨Nat.zero_le _, Nat.zero_le _⟩) hS (fun H locs hV hS => ?_)
      refine gn_X0_1 (k := q6) C hV (kr_X8_editorNumbered z_1 e6) q_184 dX9_editorOf_68 ?_
      rw [← Option.some.inj hr]
      exact fin_ix C hV hS rfl dX9_editorOf_71
    have hr := ie b_5 hr
    refine lv_lookup (off := 49) (tgt := 72) hx hb dX9_editorOf_23 (by decide +kernel) ((lv_osw b_3 (by decide)).trans ((lv_osw b_5 (by decide)).trans rfl)) (by decide) ?_
    rw [← Option.some.inj hr]
    exact th_3 (ik := 232) (is := 234) (ic := 236) C hfl ht hV hS hl.1 q_581 (st_1 hK) q_591 dX9_editorOf_72 dX9_editorOf_75 dX9_editorOf_76 dX9_editorOf_78 dX9_editorOf_81 (Nat.le_of_ble_eq_true rfl) (Nat.le_of_ble_eq_true rfl)
  · have hr := it b_2 hr
    rw [← Option.some.inj hr]
    exact th_w1 (ik := 193) (is := 300) (ic := 197) C hfl ht hV hS hl.1 q_470 (st_33 hK) q_480 dX9_editorOf_11 dX9_editorOf_14 dX9_editorOf_15 dX9_editorOf_18 dX9_editorOf_21 (Nat.le_of_ble_eq_true rfl) (Nat.le_of_ble_eq_true rfl)
set_option maxHeartbeats 4000000 in
set_option maxRecDepth 100000 in
theorem c_X9_feed (l : Launch) (hfl : l.stackTraces = false) (G : LG) (b0 : Nat) (V : St) (x1 : Int32) (res : (Except Nat Int32) × St) (hr : f_X9_feed V x1 = some res) : vx_Met l yX9_feed (wy yX9_feed cX9_feed 2 (some .int)) (rmx 6) (va_Pc [.ref (b0 + 0), .int x1] (Iv G b0 V)) (QIx G b0 res.1 res.2) (XX G b0 (xe res.1) res.2) 1 6 (Ab b0) := by
  refine mk_x (by decide +kernel) (Nat.le_of_ble_eq_true rfl) ?_
  intro p e s m below meth c C ht hV hS ls hl
  obtain ⟨args, hargs⟩ : ∃ z, z = ([.ref (b0 + 0), .int x1] : List Value).toArray := ⟨_, rfl⟩
  rw [← hargs] at C ⊢
  obtain ⟨hx, hb, hrt, hml, hown, hts, hlocks, hK, hSv⟩ := id C
  have hl : lv_has ls 2 [(0, .ref (b0 + 0)), (1, .int x1)] := hl
  unfold f_X9_feed at hr
  refine lv_aload_n hx hb dX9_feed_0 rfl (lv_at hl 0 rfl) ?_
  refine g_X9_6 C hV q_345 dX9_feed_1 ?_
  obtain ⟨q1, e1, hr⟩ := ob hr
  refine cal_i (run_VN (As := []) (rest := []) C hV hS (c_X7_isFull l G b0 V q1 e1) (rcv hK hV (kd_lt z_192 (by decide)) (cel_12 z_192) rfl) q_1127 q_1129 q_51 q_100 q_1130 dk_X7_isFull (rmx_ok (by decide) (by decide)) hl.1 rfl (Nat.le_of_ble_eq_true rfl) dX9_feed_4 ⟨Nat.zero_le _, Nat.zero_le _⟩) hS (fun H locs hV hS => ?_)
  refine lv_if_eq (tgt := 21) hx hb dX9_feed_7 (by decide) (fun b_2 => ?_) (fun b_2 => ?_)
  · have hr := it b_2 hr
    refine lv_aload_n hx hb dX9_feed_21 rfl (lv_at hl 0 rfl) ?_
    refine g_X9_6 C hV q_345 dX9_feed_22 ?_
    refine lv_iload_n hx hb dX9_feed_25 rfl (lv_at hl 1 rfl) ?_
    obtain ⟨q3, e3, hr⟩ := ob hr
    refine cal_v (run_VN (As := [.int x1]) (rest := []) C hV hS (c_X7_append l G b0 V x1 q3 e3) (rcv hK hV (kd_lt z_192 (by decide)) (cel_12 z_192) rfl) q_1147 q_1149 q_52 q_100 q_1150 dk_X7_append (rmx_ok (by decide) (by decide)) hl.1 rfl (Nat.le_of_ble_eq_true rfl) dX9_feed_26 ⟨Nat.zero_le _, Nat.zero_le _⟩) hS (fun H locs hV hS => ?_)
    refine lv_aload_n hx hb dX9_feed_29 rfl (lv_at hl 0 rfl) ?_
    refine g_X9_6 C hV q_345 dX9_feed_30 ?_
    refine gn_X7_1 C hV q_286 dX9_feed_33 ?_
    rw [← Option.some.inj hr]
    exact fin_ix C hV hS rfl dX9_feed_36
  · have hr := ie b_2 hr
    rw [← Option.some.inj hr]
    exact th_w4 (ik := 309) (is := 311) (ic := 313) C hfl ht hV hS hl.1 q_1131 (st_19 hK) q_1141 dX9_feed_10 dX9_feed_13 dX9_feed_14 dX9_feed_17 dX9_feed_20 (Nat.le_of_ble_eq_true rfl) (Nat.le_of_ble_eq_true rfl)
