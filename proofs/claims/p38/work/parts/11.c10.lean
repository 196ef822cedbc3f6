set_option maxHeartbeats 4000000 in
set_option maxRecDepth 100000 in
theorem c_X9_account (l : Launch) (hfl : l.stackTraces = false) (G : LG) (b0 : Nat) (V : St) (x1 : Int32) (res : Except Nat Int32) (hr : f_X9_account V x1 = some res) : vx_Met l yX9_account (wy yX9_account cX9_account 2 (some .int)) (rmx 6) (va_Pc [.ref (b0 + 0), .int x1] (Iv G b0 V)) (QIx G b0 res V) (XX G b0 (xe res) V) 1 6 (Ab b0) := by
  refine mk_x (by decide +kernel) (Nat.le_of_ble_eq_true rfl) ?_
  intro p e s m below meth c C ht hV hS ls hl
  obtain ⟨args, hargs⟩ : ∃ z, z = ([.ref (b0 + 0), .int x1] : List Value).toArray := ⟨_, rfl⟩
  rw [← hargs] at C ⊢
  obtain ⟨hx, hb, hrt, hml, hown, hts, hlocks, hK, hSv⟩ := id C
  have hl : lv_has ls 2 [(0, .ref (b0 + 0)), (1, .int x1)] := hl
  unfold f_X9_account at hr
  refine lv_iload_n hx hb dX9_account_0 rfl (lv_at hl 1 rfl) ?_
  by_cases b_1 : x1 = 0
  · have hr := it b_1 hr
    refine lv_tableIn (off := 67) (tgt := 68) hx hb dX9_account_1 (by rw [b_1]; decide) (by rw [b_1]; decide) (by rw [b_1]; decide +kernel) (by decide) ?_
    refine lv_aload_n hx hb dX9_account_68 rfl (lv_at hl 0 rfl) ?_
    refine g_X9_0 C hV q_339 dX9_account_69 ?_
    obtain ⟨q2, e2, hr⟩ := ob hr
    refine cal_i (run_VN (As := []) (rest := []) C hV hS (c_X8_countKnots l G b0 V 1 z_1 q2 e2) (rcv hK hV (kd_lt z_1 (by decide)) (cel_1 z_1) rfl) q_530 q_532 q_7 q_94 q_533 dk_X8_countKnots (rmx_ok (by decide) (by decide)) hl.1 rfl (Nat.le_of_ble_eq_true rfl) dX9_account_72 ⟨Nat.zero_le _, Nat.zero_le _⟩) hS (fun H locs hV hS => ?_)
    rw [← Option.some.inj hr]
    exact fin_ix C hV hS rfl dX9_account_75
  have hr := ie b_1 hr
  by_cases b_3 : x1 = 1
  · have hr := it b_3 hr
    refine lv_tableIn (off := 75) (tgt := 76) hx hb dX9_account_1 (by rw [b_3]; decide) (by rw [b_3]; decide) (by rw [b_3]; decide +kernel) (by decide) ?_
    refine lv_aload_n hx hb dX9_account_76 rfl (lv_at hl 0 rfl) ?_
    refine g_X9_0 C hV q_339 dX9_account_77 ?_
    obtain ⟨q4, e4, hr⟩ := ob hr
    refine cal_i (run_VN (As := []) (rest := []) C hV hS (c_X8_countAllChapters l G b0 V 1 z_1 q4 e4) (rcv hK hV (kd_lt z_1 (by decide)) (cel_1 z_1) rfl) q_537 q_539 q_8 q_94 q_540 dk_X8_countAllChapters (rmx_ok (by decide) (by decide)) hl.1 rfl (Nat.le_of_ble_eq_true rfl) dX9_account_80 ⟨Nat.zero_le _, Nat.zero_le _⟩) hS (fun H locs hV hS => ?_)
    rw [← Option.some.inj hr]
    exact fin_ix C hV hS rfl dX9_account_83
  have hr := ie b_3 hr
  by_cases b_5 : x1 = 2
  · have hr := it b_5 hr
    refine lv_tableIn (off := 83) (tgt := 84) hx hb dX9_account_1 (by rw [b_5]; decide) (by rw [b_5]; decide) (by rw [b_5]; decide +kernel) (by decide) ?_
    refine lv_aload_n hx hb dX9_account_84 rfl (lv_at hl 0 rfl) ?_
    refine g_X9_0 C hV q_339 dX9_account_85 ?_
    obtain ⟨q6, e6, hr⟩ := ob hr
    refine cal_i (run_VN (As := []) (rest := []) C hV hS (c_X8_countTorn l G b0 V 1 z_1 q6 e6) (rcv hK hV (kd_lt z_1 (by decide)) (cel_1 z_1) rfl) q_542 q_544 q_9 q_94 q_545 dk_X8_countTorn (rmx_ok (by decide) (by decide)) hl.1 rfl (Nat.le_of_ble_eq_true rfl) dX9_account_88 ⟨Nat.zero_le _, Nat.zero_le _⟩) hS (fun H locs hV hS => ?_)
    rw [← Option.some.inj hr]
    exact fin_ix C hV hS rfl dX9_account_91
  have hr := ie b_5 hr
  by_cases b_7 : x1 = 3
  · have hr := it b_7 hr
    refine lv_tableIn (off := 91) (tgt := 92) hx hb dX9_account_1 (by rw [b_7]; decide) (by rw [b_7]; decide) (by rw [b_7]; decide +kernel) (by decide) ?_
    refine lv_aload_n hx hb dX9_account_92 rfl (lv_at hl 0 rfl) ?_
    refine g_X9_0 C hV q_339 dX9_account_93 ?_
    refine gn_X8_3 (k := 1) C hV z_1 q_215 dX9_account_96 ?_
    rw [← Option.some.inj hr]
    exact fin_ix C hV hS rfl dX9_account_99
  have hr := ie b_7 hr
  by_cases b_8 : x1 = 4
  · have hr := it b_8 hr
    refine lv_tableIn (off := 99) (tgt := 100) hx hb dX9_account_1 (by rw [b_8]; decide) (by rw [b_8]; decide) (by rw [b_8]; decide +kernel) (by decide) ?_
    refine lv_aload_n hx hb dX9_account_100 rfl (lv_at hl 0 rfl) ?_
    refine g_X9_0 C hV q_339 dX9_account_101 ?_
    obtain ⟨q9, e9, hr⟩ := ob hr
    refine cal_i (run_VN (As := []) (rest := []) C hV hS (c_X8_sumTwine l G b0 V 1 z_1 q9 e9) (rcv hK hV (kd_lt z_1 (by decide)) (cel_1 z_1) rfl) q_551 q_553 q_11 q_94 q_554 dk_X8_sumTwine (rmx_ok (by decide) (by decide)) hl.1 rfl (Nat.le_of_ble_eq_true rfl) dX9_account_104 ⟨Nat.zero_le _, Nat.zero_le _⟩) hS (fun H locs hV hS => ?_)
    rw [← Option.some.inj hr]
    exact fin_ix C hV hS rfl dX9_account_107
  have hr := ie b_8 hr
  by_cases b_10 : x1 = 5
  · have hr := it b_10 hr
    refine lv_tableIn (off := 107) (tgt := 108) hx hb dX9_account_1 (by rw [b_10]; decide) (by rw [b_10]; decide) (by rw [b_10]; decide +kernel) (by decide) ?_
    refine lv_aload_n hx hb dX9_account_108 rfl (lv_at hl 0 rfl) ?_
    refine g_X9_0 C hV q_339 dX9_account_109 ?_
    refine gn_X8_4 (k := 1) C hV z_1 q_217 dX9_account_112 ?_
    rw [← Option.some.inj hr]
    exact fin_ix C hV hS rfl dX9_account_115
  have hr := ie b_10 hr
  by_cases b_11 : x1 = 6
  · have hr := it b_11 hr
    refine lv_tableIn (off := 115) (tgt := 116) hx hb dX9_account_1 (by rw [b_11]; decide) (by rw [b_11]; decide) (by rw [b_11]; decide +kernel) (by decide) ?_
    refine lv_aload_n hx hb dX9_account_116 rfl (lv_at hl 0 rfl) ?_
    refine g_X9_0 C hV q_339 dX9_account_117 ?_
    obtain ⟨q12, e12, hr⟩ := ob hr
    refine cal_i (run_VN (As := []) (rest := []) C hV hS (c_X8_countAsNoted l G b0 V 1 z_1 q12 e12) (rcv hK hV (kd_lt z_1 (by decide)) (cel_1 z_1) rfl) q_559 q_561 q_13 q_94 q_562 dk_X8_countAsNoted (rmx_ok (by decide) (by decide)) hl.1 rfl (Nat.le_of_ble_eq_true rfl) dX9_account_120 ⟨Nat.zero_le _, Nat.zero_le _⟩) hS (fun H locs hV hS => ?_)
    rw [← Option.some.inj hr]
    exact fin_ix C hV hS rfl dX9_account_123
  have hr := ie b_11 hr
  by_cases b_13 : x1 = 7
  · have hr := it b_13 hr
    refine lv_tableIn (off := 123) (tgt := 124) hx hb dX9_account_1 (by rw [b_13]; decide) (by rw [b_13]; decide) (by rw [b_13]; decide +kernel) (by decide) ?_
    refine lv_aload_n hx hb dX9_account_124 rfl (lv_at hl 0 rfl) ?_
    refine g_X9_0 C hV q_339 dX9_account_125 ?_
    refine gn_X8_5 (k := 1) C hV z_1 q_219 dX9_account_128 ?_
    rw [← Option.some.inj hr]
    exact fin_ix C hV hS rfl dX9_account_131
  have hr := ie b_13 hr
  by_cases b_14 : x1 = 8
  · have hr := it b_14 hr
    refine lv_tableIn (off := 131) (tgt := 132) hx hb dX9_account_1 (by rw [b_14]; decide) (by rw [b_14]; decide) (by rw [b_14]; decide +kernel) (by decide) ?_
    refine lv_aload_n hx hb dX9_account_132 rfl (lv_at hl 0 rfl) ?_
    refine g_X9_0 C hV q_339 dX9_account_133 ?_
    refine gn_X8_6 (k := 1) C hV z_1 q_221 dX9_account_136 ?_
    rw [← Option.some.inj hr]
    exact fin_ix C hV hS rfl dX9_account_139
  have hr := ie b_14 hr
  by_cases b_15 : x1 = 9
  · have hr := it b_15 hr
    refine lv_tableIn (off := 139) (tgt := 140) hx hb dX9_account_1 (by rw [b_15]; decide) (by rw [b_15]; decide) (by rw [b_15]; decide +kernel) (by decide) ?_
    refine lv_aload_n hx hb dX9_account_140 rfl (lv_at hl 0 rfl) ?_
    refine g_X9_0 C hV q_339 dX9_account_141 ?_
    refine gn_X8_7 (k := 1) C hV z_1 q_223 dX9_account_144 ?_
    rw [← Option.some.inj hr]
    exact fin_ix C hV hS rfl dX9_account_147
  have hr := ie b_15 hr
  by_cases b_16 : x1 = 10
  · have hr := it b_16 hr
    refine lv_tableIn (off := 147) (tgt := 148) hx hb dX9_account_1 (by rw [b_16]; decide) (by rw [b_16]; decide) (by rw [b_16]; decide +kernel) (by decide) ?_
    refine lv_aload_n hx hb dX9_account_148 rfl (lv_at hl 0 rfl) ?_
    refine g_X9_0 C hV q_339 dX9_account_149 ?_
    refine gn_X8_8 (k := 1) C hV z_1 q_225 dX9_account_152 ?_
    rw [← Option.some.inj hr]
    exact fin_ix C hV hS rfl dX9_account_155
  have hr := ie b_16 hr
  by_cases b_17 : x1 = 11
  · have hr := it b_17 hr
    refine lv_tableIn (off := 155) (tgt := 156) hx hb dX9_account_1 (by rw [b_17]; decide) (by rw [b_17]; decide) (by rw [b_17]; decide +kernel) (by decide) ?_
    refine lv_aload_n hx hb dX9_account_156 rfl (lv_at hl 0 rfl) ?_
    refine g_X9_6 C hV q_345 dX9_account_157 ?_
    refine gn_X7_1 C hV q_286 dX9_account_160 ?_
    rw [← Option.some.inj hr]
    exact fin_ix C hV hS rfl dX9_account_163
  have hr := ie b_17 hr
  by_cases b_18 : x1 = 12
  · have hr := it b_18 hr
    refine lv_tableIn (off := 163) (tgt := 164) hx hb dX9_account_1 (by rw [b_18]; decide) (by rw [b_18]; decide) (by rw [b_18]; decide +kernel) (by decide) ?_
    refine lv_aload_n hx hb dX9_account_164 rfl (lv_at hl 0 rfl) ?_
    refine g_X9_4 C hV q_343 dX9_account_165 ?_
    refine gn_X1_2 C hV q_257 dX9_account_168 ?_
    rw [← Option.some.inj hr]
    exact fin_ix C hV hS rfl dX9_account_171
  have hr := ie b_18 hr
  have n_1 := lv_neT (a := 0) b_1 (by decide)
  have n_3 := lv_neT (a := 1) b_3 (by decide)
  have n_5 := lv_neT (a := 2) b_5 (by decide)
  have n_7 := lv_neT (a := 3) b_7 (by decide)
  have n_8 := lv_neT (a := 4) b_8 (by decide)
  have n_10 := lv_neT (a := 5) b_10 (by decide)
  have n_11 := lv_neT (a := 6) b_11 (by decide)
  have n_13 := lv_neT (a := 7) b_13 (by decide)
  have n_14 := lv_neT (a := 8) b_14 (by decide)
  have n_15 := lv_neT (a := 9) b_15 (by decide)
  have n_16 := lv_neT (a := 10) b_16 (by decide)
  have n_17 := lv_neT (a := 11) b_17 (by decide)
  have n_18 := lv_neT (a := 12) b_18 (by decide)
  refine lv_tableOut (tgt := 172) hx hb dX9_account_1 (by omega) (by decide) ?_
  rw [← Option.some.inj hr]
  exact th_3 (ik := 232) (is := 234) (ic := 236) C hfl ht hV hS hl.1 q_581 (st_1 hK) q_591 dX9_account_172 dX9_account_175 dX9_account_176 dX9_account_178 dX9_account_181 (Nat.le_of_ble_eq_true rfl) (Nat.le_of_ble_eq_true rfl)
set_option maxHeartbeats 4000000 in
set_option maxRecDepth 100000 in
theorem c_X9_isBalanced (l : Launch) (G : LG) (b0 : Nat) (V : St) (res : Int32 × St) (hr : f_X9_isBalanced V = some res) : Met l yX9_isBalanced (wy yX9_isBalanced cX9_isBalanced 1 (some .boolean)) (rm 6) (va_Pc [.ref (b0 + 0)] (Iv G b0 V)) (QI G b0 res.1 res.2) 0 0 (Ab b0) := by
  refine mk_m (by decide +kernel) (Nat.le_of_ble_eq_true rfl) ?_
  intro p e s m below meth c C hV hS ls hl
  obtain ⟨args, hargs⟩ : ∃ z, z = ([.ref (b0 + 0)] : List Value).toArray := ⟨_, rfl⟩
  rw [← hargs] at C ⊢
  obtain ⟨hx, hb, hrt, hml, hown, hts, hlocks, hK, hSv⟩ := id C
  have hl : lv_has ls 1 [(0, .ref (b0 + 0))] := hl
  unfold f_X9_isBalanced at hr
  refine lv_aload_n hx hb dX9_isBalanced_0 rfl (lv_at hl 0 rfl) ?_
  refine g_X9_0 C hV q_339 dX9_isBalanced_1 ?_
  refine lv_aload_n hx hb dX9_isBalanced_4 rfl (lv_at hl 0 rfl) ?_
  refine g_X9_5 C hV q_344 dX9_isBalanced_5 ?_
  obtain ⟨q1, e1, hr⟩ := ob hr
  refine cal_i (run_VN (As := [.ref (b0 + 190)]) (rest := []) C hV hS (c_X8_areChaptersToldAlike l G b0 V 1 z_1 q1 e1) (rcv hK hV (kd_lt z_1 (by decide)) (cel_1 z_1) rfl) q_1515 q_1517 q_88 q_94 q_1518 dk_X8_areChaptersToldAlike (rm_ok (by decide) (by decide)) hl.1 rfl (Nat.le_of_ble_eq_true rfl) dX9_isBalanced_8 ⟨Nat.zero_le _, Nat.zero_le _⟩) hS (fun H locs hV hS => ?_)
  refine lv_if_eq (tgt := 57) hx hb dX9_isBalanced_11 (by decide) (fun b_2 => ?_) (fun b_2 => ?_)
  · have hr := it b_2 hr
    refine lv_iconst (v := 0) hx hb dX9_isBalanced_57 (by decide) ?_
    rw [← Option.some.inj hr]
    exact fin_z C hV hS (by decide) rfl dX9_isBalanced_58
  · have hr := ie b_2 hr
    refine lv_aload_n hx hb dX9_isBalanced_14 rfl (lv_at hl 0 rfl) ?_
    refine g_X9_0 C hV q_339 dX9_isBalanced_15 ?_
    refine lv_aload_n hx hb dX9_isBalanced_18 rfl (lv_at hl 0 rfl) ?_
    refine g_X9_5 C hV q_344 dX9_isBalanced_19 ?_
    obtain ⟨q3, e3, hr⟩ := ob hr
    refine cal_i (run_VN (As := [.ref (b0 + 190)]) (rest := []) C hV hS (c_X8_areNotesToldAlike l G b0 q1.2 1 z_1 q3 e3) (rcv hK hV (kd_lt z_1 (by decide)) (cel_1 z_1) rfl) q_1521 q_1523 q_89 q_94 q_1524 dk_X8_areNotesToldAlike (rm_ok (by decide) (by decide)) hl.1 rfl (Nat.le_of_ble_eq_true rfl) dX9_isBalanced_22 ⟨Nat.zero_le _, Nat.zero_le _⟩) hS (fun H locs hV hS => ?_)
    refine lv_if_eq (tgt := 57) hx hb dX9_isBalanced_25 (by decide) (fun b_4 => ?_) (fun b_4 => ?_)
    · have hr := it b_4 hr
      refine lv_iconst (v := 0) hx hb dX9_isBalanced_57 (by decide) ?_
      rw [← Option.some.inj hr]
      exact fin_z C hV hS (by decide) rfl dX9_isBalanced_58
    · have hr := ie b_4 hr
      refine lv_aload_n hx hb dX9_isBalanced_28 rfl (lv_at hl 0 rfl) ?_
      refine g_X9_0 C hV q_339 dX9_isBalanced_29 ?_
      refine gn_X8_6 (k := 1) C hV z_1 q_221 dX9_isBalanced_32 ?_
      refine lv_aload_n hx hb dX9_isBalanced_35 rfl (lv_at hl 0 rfl) ?_
      refine g_X9_0 C hV q_339 dX9_isBalanced_36 ?_
      obtain ⟨q5, e5, hr⟩ := ob hr
      refine cal_i (run_VN (As := []) (rest := [.int (q3.2 1 6)]) C hV hS (c_X8_countTorn l G b0 q3.2 1 z_1 q5 e5) (rcv hK hV (kd_lt z_1 (by decide)) (cel_1 z_1) rfl) q_542 q_544 q_9 q_94 q_545 dk_X8_countTorn (rm_ok (by decide) (by decide)) hl.1 rfl (Nat.le_of_ble_eq_true rfl) dX9_isBalanced_39 ⟨Nat.zero_le _, Nat.zero_le _⟩) hS (fun H locs hV hS => ?_)
      refine lv_aload_n hx hb dX9_isBalanced_42 rfl (lv_at hl 0 rfl) ?_
      refine g_X9_0 C hV q_339 dX9_isBalanced_43 ?_
      refine gn_X8_7 (k := 1) C hV z_1 q_223 dX9_isBalanced_46 ?_
      refine lv_iadd hx hb dX9_isBalanced_49 ?_
      refine lv_icmp_ne (tgt := 57) hx hb dX9_isBalanced_50 (by decide) (fun b_6 => ?_) (fun b_6 => ?_)
      · have hr := ie b_6 hr
        refine lv_iconst (v := 0) hx hb dX9_isBalanced_57 (by decide) ?_
        rw [← Option.some.inj hr]
        exact fin_z C hV hS (by decide) rfl dX9_isBalanced_58
      · have hr := it b_6 hr
        refine lv_iconst (v := 1) hx hb dX9_isBalanced_53 (by decide) ?_
        refine lv_goto (tgt := 58) hx hb dX9_isBalanced_54 (by decide) ?_
        rw [← Option.some.inj hr]
        exact fin_z C hV hS (by decide) rfl dX9_isBalanced_58
set_option maxHeartbeats 4000000 in
set_option maxRecDepth 100000 in
theorem c_X9_undo (l : Launch) (hfl : l.stackTraces = false) (G : LG) (b0 : Nat) (V : St) (res : (Except Nat Int32) × St) (hr : f_X9_undo V = some res) : vx_Met l yX9_undo (wy yX9_undo cX9_undo 1 (some .int)) (rmx 6) (va_Pc [.ref (b0 + 0)] (Iv G b0 V)) (QIx G b0 res.1 res.2) (XX G b0 (xe res.1) res.2) 1 6 (Ab b0) := by
  refine mk_x (by decide +kernel) (Nat.le_of_ble_eq_true rfl) ?_
  intro p e s m below meth c C ht hV hS ls hl
  obtain ⟨args, hargs⟩ : ∃ z, z = ([.ref (b0 + 0)] : List Value).toArray := ⟨_, rfl⟩
  rw [← hargs] at C ⊢
  obtain ⟨hx, hb, hrt, hml, hown, hts, hlocks, hK, hSv⟩ := id C
  have hl : lv_has ls 1 [(0, .ref (b0 + 0))] := hl
  unfold f_X9_undo at hr
  refine lv_aload_n hx hb dX9_undo_0 rfl (lv_at hl 0 rfl) ?_
  refine g_X9_4 C hV q_343 dX9_undo_1 ?_
  refine gn_X1_2 C hV q_257 dX9_undo_4 ?_
  refine lv_if_ne (tgt := 21) hx hb dX9_undo_7 (by decide) (fun b_1 => ?_) (fun b_1 => ?_)
  · have hr := ie b_1 hr
    refine lv_aload_n hx hb dX9_undo_21 rfl (lv_at hl 0 rfl) ?_
    refine g_X9_4 C hV q_343 dX9_undo_22 ?_
    refine lv_aload_n hx hb dX9_undo_25 rfl (lv_at hl 0 rfl) ?_
    refine g_X9_0 C hV q_339 dX9_undo_26 ?_
    obtain ⟨q2, e2, hr⟩ := ob hr
    refine cal_v (run_VN (As := [.ref (b0 + 1)]) (rest := []) C hV hS (c_X1_popInto l G b0 V 1 z_1 q2 e2) (rcv hK hV (kd_lt z_52 (by decide)) (cel_8 z_52) rfl) q_1543 q_1545 q_90 q_98 q_1546 dk_X1_popInto (rmx_ok (by decide) (by decide)) hl.1 rfl (Nat.le_of_ble_eq_true rfl) dX9_undo_29 ⟨Nat.zero_le _, Nat.zero_le _⟩) hS (fun H locs hV hS => ?_)
    refine lv_aload_n hx hb dX9_undo_32 rfl (lv_at hl 0 rfl) ?_
    refine g_X9_4 C hV q_343 dX9_undo_33 ?_
    refine gn_X1_2 C hV q_257 dX9_undo_36 ?_
    rw [← Option.some.inj hr]
    exact fin_ix C hV hS rfl dX9_undo_39
  · have hr := it b_1 hr
    rw [← Option.some.inj hr]
    exact th_w4 (ik := 309) (is := 432) (ic := 313) C hfl ht hV hS hl.1 q_1131 (st_41 hK) q_1141 dX9_undo_10 dX9_undo_13 dX9_undo_14 dX9_undo_17 dX9_undo_20 (Nat.le_of_ble_eq_true rfl) (Nat.le_of_ble_eq_true rfl)
set_option maxHeartbeats 4000000 in
set_option maxRecDepth 100000 in
theorem c_X9_save (l : Launch) (G : LG) (b0 : Nat) (V : St) (res : Int32 × St) (hr : f_X9_save V = some res) : Met l yX9_save (wy yX9_save cX9_save 1 (some .int)) (rm 2) (va_Pc [.ref (b0 + 0)] (Iv G b0 V)) (QI G b0 res.1 res.2) 0 0 (Ab b0) := by
  refine mk_m (by decide +kernel) (Nat.le_of_ble_eq_true rfl) ?_
  intro p e s m below meth c C hV hS ls hl
  obtain ⟨args, hargs⟩ : ∃ z, z = ([.ref (b0 + 0)] : List Value).toArray := ⟨_, rfl⟩
  rw [← hargs] at C ⊢
  obtain ⟨hx, hb, hrt, hml, hown, hts, hlocks, hK, hSv⟩ := id C
  have hl : lv_has ls 1 [(0, .ref (b0 + 0))] := hl
  unfold f_X9_save at hr
  refine lv_aload_n hx hb dX9_save_0 rfl (lv_at hl 0 rfl) ?_
  refine g_X9_2 C hV q_341 dX9_save_1 ?_
  refine lv_aload_n hx hb dX9_save_4 rfl (lv_at hl 0 rfl) ?_
  refine g_X9_0 C hV q_339 dX9_save_5 ?_
  obtain ⟨q1, e1, hr⟩ := ob hr
  refine cal_v (run_VN (As := [.ref (b0 + 1)]) (rest := []) C hV hS (c_X8_copyFrom l G b0 V 35 z_35 1 z_1 q1 e1) (rcv hK hV (kd_lt z_35 (by decide)) (cel_1 z_35) rfl) q_1213 q_659 q_24 q_94 q_660 dk_X8_copyFrom (rm_ok (by decide) (by decide)) hl.1 rfl (Nat.le_of_ble_eq_true rfl) dX9_save_8 ⟨Nat.zero_le _, Nat.zero_le _⟩) hS (fun H locs hV hS => ?_)
  refine lv_aload_n hx hb dX9_save_11 rfl (lv_at hl 0 rfl) ?_
  refine lv_iconst (v := 1) hx hb dX9_save_12 (by decide) ?_
  refine p_X9_3 (x := 1) C hV hS q_342 (by decide) dX9_save_13 (fun H locs hV hS => ?_)
  refine lv_aload_n hx hb dX9_save_16 rfl (lv_at hl 0 rfl) ?_
  refine g_X9_2 C hV q_341 dX9_save_17 ?_
  refine gn_X8_4 (k := 35) C hV z_35 q_217 dX9_save_20 ?_
  rw [← Option.some.inj hr]
  exact fin_i C hV hS rfl dX9_save_23
set_option maxHeartbeats 4000000 in
set_option maxRecDepth 100000 in
theorem c_X9_restore (l : Launch) (hfl : l.stackTraces = false) (G : LG) (b0 : Nat) (V : St) (res : (Except Nat Int32) × St) (hr : f_X9_restore V = some res) : vx_Met l yX9_restore (wy yX9_restore cX9_restore 1 (some .int)) (rmx 6) (va_Pc [.ref (b0 + 0)] (Iv G b0 V)) (QIx G b0 res.1 res.2) (XX G b0 (xe res.1) res.2) 1 6 (Ab b0) := by
  refine mk_x (by decide +kernel) (Nat.le_of_ble_eq_true rfl) ?_
  intro p e s m below meth c C ht hV hS ls hl
  obtain ⟨args, hargs⟩ : ∃ z, z = ([.ref (b0 + 0)] : List Value).toArray := ⟨_, rfl⟩
  rw [← hargs] at C ⊢
  obtain ⟨hx, hb, hrt, hml, hown, hts, hlocks, hK, hSv⟩ := id C
  have hl : lv_has ls 1 [(0, .ref (b0 + 0))] := hl
  unfold f_X9_restore at hr
  refine lv_aload_n hx hb dX9_restore_0 rfl (lv_at hl 0 rfl) ?_
  refine g_X9_3 C hV q_342 dX9_restore_1 ?_
  refine lv_if_ne (tgt := 18) hx hb dX9_restore_4 (by decide) (fun b_1 => ?_) (fun b_1 => ?_)
  · have hr := ie b_1 hr
    refine lv_aload_n hx hb dX9_restore_18 rfl (lv_at hl 0 rfl) ?_
    refine g_X9_0 C hV q_339 dX9_restore_19 ?_
    refine lv_aload_n hx hb dX9_restore_22 rfl (lv_at hl 0 rfl) ?_
    refine g_X9_2 C hV q_341 dX9_restore_23 ?_
    obtain ⟨q2, e2, hr⟩ := ob hr
    refine cal_v (run_VN (As := [.ref (b0 + 35)]) (rest := []) C hV hS (c_X8_copyFrom l G b0 V 1 z_1 35 z_35 q2 e2) (rcv hK hV (kd_lt z_1 (by decide)) (cel_1 z_1) rfl) q_1213 q_659 q_24 q_94 q_660 dk_X8_copyFrom (rmx_ok (by decide) (by decide)) hl.1 rfl (Nat.le_of_ble_eq_true rfl) dX9_restore_26 ⟨Nat.zero_le _, Nat.zero_le _⟩) hS (fun H locs hV hS => ?_)
    refine lv_aload_n hx hb dX9_restore_29 rfl (lv_at hl 0 rfl) ?_
    refine g_X9_4 C hV q_343 dX9_restore_30 ?_
    obtain ⟨q3, e3, hr⟩ := ob hr
    refine cal_v (run_VN (As := []) (rest := []) C hV hS (c_X1_clear l G b0 q2 q3 e3) (rcv hK hV (kd_lt z_52 (by decide)) (cel_8 z_52) rfl) q_1555 q_1557 q_91 q_98 q_1558 dk_X1_clear (rmx_ok (by decide) (by decide)) hl.1 rfl (Nat.le_of_ble_eq_true rfl) dX9_restore_33 ⟨Nat.zero_le _, Nat.zero_le _⟩) hS (fun H locs hV hS => ?_)
    refine lv_aload_n hx hb dX9_restore_36 rfl (lv_at hl 0 rfl) ?_
    refine g_X9_0 C hV q_339 dX9_restore_37 ?_
    refine gn_X8_4 (k := 1) C hV z_1 q_217 dX9_restore_40 ?_
    rw [← Option.some.inj hr]
    exact fin_ix C hV hS rfl dX9_restore_43
  · have hr := it b_1 hr
    rw [← Option.some.inj hr]
    exact th_w4 (ik := 309) (is := 437) (ic := 313) C hfl ht hV hS hl.1 q_1131 (st_42 hK) q_1141 dX9_restore_7 dX9_restore_10 dX9_restore_11 dX9_restore_14 dX9_restore_17 (Nat.le_of_ble_eq_true rfl) (Nat.le_of_ble_eq_true rfl)
