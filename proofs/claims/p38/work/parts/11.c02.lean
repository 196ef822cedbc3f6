set_option maxHeartbeats 4000000 in
set_option maxRecDepth 100000 in
theorem c_X3_countChaptersByStrings (l : Launch) (G : LG) (b0 : Nat) (V : St) (k0 : Nat) (hk0 : kd k0 = 5) (res : Int32 × St) (hr : f_X3_countChaptersByStrings V k0 = some res) : Met l yX3_countChaptersByStrings (wy yX3_countChaptersByStrings cX3_countChaptersByStrings 2 (some .int)) (rm 3) (va_Pc [.ref (b0 + k0), .ref (b0 + 190)] (Iv G b0 V)) (QI G b0 res.1 res.2) 0 0 (Ab b0) := by
  refine mk_m (by decide +kernel) (Nat.le_of_ble_eq_true rfl) ?_
  intro p e s m below meth c C hV hS ls hl
  obtain ⟨args, hargs⟩ : ∃ z, z = ([.ref (b0 + k0), .ref (b0 + 190)] : List Value).toArray := ⟨_, rfl⟩
  rw [← hargs] at C ⊢
  obtain ⟨hx, hb, hrt, hml, hown, hts, hlocks, hK, hSv⟩ := id C
  have hl : lv_has ls 2 [(0, .ref (b0 + k0)), (1, .ref (b0 + 190))] := hl
  unfold f_X3_countChaptersByStrings at hr
  refine lv_aload_n hx hb dX3_countChaptersByStrings_0 rfl (lv_at hl 1 rfl) ?_
  obtain ⟨q1, e1, hr⟩ := ob hr
  refine cal_v (run_VN (As := []) (rest := []) C hV hS (c_X5_separate l G b0 V q1 e1) (rcv hK hV (kd_lt z_190 (by decide)) (cel_10 z_190) rfl) q_1409 q_1411 q_78 q_99 q_1412 dk_X5_separate (rm_ok (by decide) (by decide)) hl.1 rfl (Nat.le_of_ble_eq_true rfl) dX3_countChaptersByStrings_1 ⟨Nat.zero_le _, Nat.zero_le _⟩) hS (fun H locs hV hS => ?_)
  refine lv_aload_n hx hb dX3_countChaptersByStrings_4 rfl (lv_at hl 0 rfl) ?_
  obtain ⟨q2, e2, hr⟩ := ob hr
  refine cal_i (run_V (As := []) (rest := []) C hV hS (c_X3_knots l G b0 q1 k0 hk0 q2 e2) (rcv hK hV (kd_lt hk0 (by decide)) (cel_5 hk0) rfl) q_492 q_494 q_3 q_95 q_495 dk_X3_knots (rm_ok (by decide) (by decide)) hl.1 rfl (Nat.le_of_ble_eq_true rfl) dX3_countChaptersByStrings_5 ⟨Nat.zero_le _, Nat.zero_le _⟩) hS (fun H locs hV hS => ?_)
  obtain ⟨q3, e3, hr⟩ := ob hr
  refine cal_i (run_S (As := [.int q2]) (rest := []) C hV hS (c_J6_bitCount_0f7a4 l G b0 q1 q2 q3 e3) q_550 q_500 q_104 q_501 dk_J6_bitCount_0f7a4 (rm_ok (by decide) (by decide)) hl.1 rfl (Nat.le_of_ble_eq_true rfl) dX3_countChaptersByStrings_8 ⟨Nat.zero_le _, Nat.zero_le _⟩) hS (fun H locs hV hS => ?_)
  refine lv_aload_n hx hb dX3_countChaptersByStrings_11 rfl (lv_at hl 1 rfl) ?_
  refine lv_aload_n hx hb dX3_countChaptersByStrings_12 rfl (lv_at hl 0 rfl) ?_
  obtain ⟨q4, e4, hr⟩ := ob hr
  refine cal_i (run_V (As := []) (rest := [.ref (b0 + 190), .int q3]) C hV hS (c_X3_knots l G b0 q1 k0 hk0 q4 e4) (rcv hK hV (kd_lt hk0 (by decide)) (cel_5 hk0) rfl) q_492 q_494 q_3 q_95 q_495 dk_X3_knots (rm_ok (by decide) (by decide)) hl.1 rfl (Nat.le_of_ble_eq_true rfl) dX3_countChaptersByStrings_13 ⟨Nat.zero_le _, Nat.zero_le _⟩) hS (fun H locs hV hS => ?_)
  refine lv_aload_n hx hb dX3_countChaptersByStrings_16 rfl (lv_at hl 0 rfl) ?_
  obtain ⟨q5, e5, hr⟩ := ob hr
  refine cal_i (run_V (As := []) (rest := [.int q4, .ref (b0 + 190), .int q3]) C hV hS (c_X3_wholeAcross l G b0 q1 k0 hk0 q5 e5) (rcv hK hV (kd_lt hk0 (by decide)) (cel_5 hk0) rfl) q_509 q_511 q_5 q_95 q_512 dk_X3_wholeAcross (rm_ok (by decide) (by decide)) hl.1 rfl (Nat.le_of_ble_eq_true rfl) dX3_countChaptersByStrings_17 ⟨Nat.zero_le _, Nat.zero_le _⟩) hS (fun H locs hV hS => ?_)
  refine lv_iconst (v := 1) hx hb dX3_countChaptersByStrings_20 (by decide) ?_
  obtain ⟨q6, e6, hr⟩ := ob hr
  refine cal_i (run_SN (As := [.int q4, .int q5, .int 1]) (rest := [.ref (b0 + 190), .int q3]) C hV hS (c_X9_within l G b0 q1 q4 q5 1 q6 e6) q_1355 q_1356 q_93 q_1357 dk_X9_within (rm_ok (by decide) (by decide)) hl.1 rfl (Nat.le_of_ble_eq_true rfl) dX3_countChaptersByStrings_21 ⟨Nat.zero_le _, Nat.zero_le _⟩) hS (fun H locs hV hS => ?_)
  refine lv_iconst (v := 1) hx hb dX3_countChaptersByStrings_24 (by decide) ?_
  obtain ⟨q7, e7, hr⟩ := ob hr
  refine cal_i (run_VN (As := [.int q6, .int 1]) (rest := [.int q3]) C hV hS (c_X5_joinAll l G b0 q1 q6 1 q7 e7) (rcv hK hV (kd_lt z_190 (by decide)) (cel_10 z_190) rfl) q_1413 q_1415 q_79 q_99 q_1416 dk_X5_joinAll (rm_ok (by decide) (by decide)) hl.1 rfl (Nat.le_of_ble_eq_true rfl) dX3_countChaptersByStrings_25 ⟨Nat.zero_le _, Nat.zero_le _⟩) hS (fun H locs hV hS => ?_)
  refine lv_isub hx hb dX3_countChaptersByStrings_28 ?_
  refine lv_aload_n hx hb dX3_countChaptersByStrings_29 rfl (lv_at hl 1 rfl) ?_
  refine lv_aload_n hx hb dX3_countChaptersByStrings_30 rfl (lv_at hl 0 rfl) ?_
  obtain ⟨q8, e8, hr⟩ := ob hr
  refine cal_i (run_V (As := []) (rest := [.ref (b0 + 190), .int (q3 - q7.1)]) C hV hS (c_X3_knots l G b0 q7.2 k0 hk0 q8 e8) (rcv hK hV (kd_lt hk0 (by decide)) (cel_5 hk0) rfl) q_492 q_494 q_3 q_95 q_495 dk_X3_knots (rm_ok (by decide) (by decide)) hl.1 rfl (Nat.le_of_ble_eq_true rfl) dX3_countChaptersByStrings_31 ⟨Nat.zero_le _, Nat.zero_le _⟩) hS (fun H locs hV hS => ?_)
  refine lv_aload_n hx hb dX3_countChaptersByStrings_34 rfl (lv_at hl 0 rfl) ?_
  obtain ⟨q9, e9, hr⟩ := ob hr
  refine cal_i (run_V (As := []) (rest := [.int q8, .ref (b0 + 190), .int (q3 - q7.1)]) C hV hS (c_X3_wholeDown l G b0 q7.2 k0 hk0 q9 e9) (rcv hK hV (kd_lt hk0 (by decide)) (cel_5 hk0) rfl) q_514 q_516 q_6 q_95 q_517 dk_X3_wholeDown (rm_ok (by decide) (by decide)) hl.1 rfl (Nat.le_of_ble_eq_true rfl) dX3_countChaptersByStrings_35 ⟨Nat.zero_le _, Nat.zero_le _⟩) hS (fun H locs hV hS => ?_)
  refine lv_bipush (v := 6) hx hb dX3_countChaptersByStrings_38 (by decide) ?_
  obtain ⟨q10, e10, hr⟩ := ob hr
  refine cal_i (run_SN (As := [.int q8, .int q9, .int 6]) (rest := [.ref (b0 + 190), .int (q3 - q7.1)]) C hV hS (c_X9_within l G b0 q7.2 q8 q9 6 q10 e10) q_1355 q_1356 q_93 q_1357 dk_X9_within (rm_ok (by decide) (by decide)) hl.1 rfl (Nat.le_of_ble_eq_true rfl) dX3_countChaptersByStrings_40 ⟨Nat.zero_le _, Nat.zero_le _⟩) hS (fun H locs hV hS => ?_)
  refine lv_bipush (v := 6) hx hb dX3_countChaptersByStrings_43 (by decide) ?_
  obtain ⟨q11, e11, hr⟩ := ob hr
  refine cal_i (run_VN (As := [.int q10, .int 6]) (rest := [.int (q3 - q7.1)]) C hV hS (c_X5_joinAll l G b0 q7.2 q10 6 q11 e11) (rcv hK hV (kd_lt z_190 (by decide)) (cel_10 z_190) rfl) q_1413 q_1415 q_79 q_99 q_1416 dk_X5_joinAll (rm_ok (by decide) (by decide)) hl.1 rfl (Nat.le_of_ble_eq_true rfl) dX3_countChaptersByStrings_45 ⟨Nat.zero_le _, Nat.zero_le _⟩) hS (fun H locs hV hS => ?_)
  refine lv_isub hx hb dX3_countChaptersByStrings_48 ?_
  rw [← Option.some.inj hr]
  exact fin_i C hV hS rfl dX3_countChaptersByStrings_49
set_option maxHeartbeats 4000000 in
set_option maxRecDepth 100000 in
theorem c_X3_greatestChapter (l : Launch) (G : LG) (b0 : Nat) (V : St) (k0 : Nat) (hk0 : kd k0 = 5) (x1 : Int32) (res : Int32) (hr : f_X3_greatestChapter V k0 x1 = some res) : Met l yX3_greatestChapter (wy yX3_greatestChapter cX3_greatestChapter 6 (some .int)) (rm 2) (va_Pc [.ref (b0 + k0), .int x1] (Iv G b0 V)) (QI G b0 res V) 0 0 (Ab b0) := by
  refine mk_m (by decide +kernel) (Nat.le_of_ble_eq_true rfl) ?_
  intro p e s m below meth c C hV hS ls hl
  obtain ⟨args, hargs⟩ : ∃ z, z = ([.ref (b0 + k0), .int x1] : List Value).toArray := ⟨_, rfl⟩
  rw [← hargs] at C ⊢
  obtain ⟨hx, hb, hrt, hml, hown, hts, hlocks, hK, hSv⟩ := id C
  have hl : lv_has ls 6 [(0, .ref (b0 + k0)), (1, .int x1)] := hl
  have K_43 : ∀ (c_7 : St → Nat → Int32 → Int32 → Int32 → Option (Int32)) (hc_7 : ∀ (k0 : Nat) (hk0 : kd k0 = 5) (x2 : Int32) (x3 : Int32) (x4 : Int32), c_7 V k0 x2 x3 x4 = some res → ∀ (H : Heap) (locs : List Loc) (ls : Array Slot), Hd G b0 V H → va_S (Ab b0) s.heap H locs → lv_has ls 6 [(0, .ref (b0 + k0)), (2, .int x2), (3, .int x3), (4, .int x4)] → W p l e (rm 2) s m args below meth c H locs 0 0 (MQ below (QI G b0 res V) args s 0 0 (Ab b0)) (F0 m 7 ls [])) (k0 : Nat) (hk0 : kd k0 = 5) (x2 : Int32) (x3 : Int32) (x4 : Int32) (x5 : Int32), f_X3_greatestChapter_b43 c_7 V k0 x2 x3 x4 x5 = some res → ∀ (H : Heap) (locs : List Loc) (ls : Array Slot), Hd G b0 V H → va_S (Ab b0) s.heap H locs → lv_has ls 6 [(0, .ref (b0 + k0)), (2, .int x2), (3, .int x3), (4, .int x4), (5, .int x5)] → W p l e (rm 2) s m args below meth c H locs 0 0 (MQ below (QI G b0 res V) args s 0 0 (Ab b0)) (F0 m 43 ls []) := by
    intro c_7 hc_7 k0 hk0 x2 x3 x4 x5 hr H locs ls hV hS hl
    unfold f_X3_greatestChapter_b43 at hr
    refine lv_iload_n hx hb dX3_greatestChapter_43 rfl (lv_at hl 1 rfl) ?_
    refine lv_iload hx hb dX3_greatestChapter_44 (lv_at hl 4 rfl) ?_
    refine lv_iconst (v := (-1)) hx hb dX3_greatestChapter_46 (by decide) ?_
    refine lv_ixor hx hb dX3_greatestChapter_47 ?_
    refine lv_iand hx hb dX3_greatestChapter_48 ?_
    refine lv_istore_n (lv' := [(2, .int (x2 &&& (x5 ^^^ (-1)))), (0, .ref (b0 + k0)), (3, .int x3), (4, .int x4), (5, .int x5)]) hx hb dX3_greatestChapter_49 rfl hl (by decide) rfl (fun ls hl => ?_)
    refine lv_iinc (v := x4 + 1) (lv' := [(4, .int (x4 + 1)), (2, .int (x2 &&& (x5 ^^^ (-1)))), (0, .ref (b0 + k0)), (3, .int x3), (5, .int x5)]) hx hb dX3_greatestChapter_50 hl (k := 3) rfl rfl (by decide) rfl (fun ls hl => ?_)
    refine lv_goto (tgt := 7) hx hb dX3_greatestChapter_53 (by decide) ?_
    exact hc_7 k0 hk0 (x2 &&& (x5 ^^^ (-1))) x3 (x4 + 1) hr _ _ ls hV hS (lv_sub hl [2, 1, 3, 0] rfl)
  have K_7 : ∀ (n : Nat) (k0 : Nat) (hk0 : kd k0 = 5) (x2 : Int32) (x3 : Int32) (x4 : Int32), f_X3_greatestChapter_b7 n V k0 x2 x3 x4 = some res → ∀ (H : Heap) (locs : List Loc) (ls : Array Slot), Hd G b0 V H → va_S (Ab b0) s.heap H locs → lv_has ls 6 [(0, .ref (b0 + k0)), (2, .int x2), (3, .int x3), (4, .int x4)] → W p l e (rm 2) s m args below meth c H locs 0 0 (MQ below (QI G b0 res V) args s 0 0 (Ab b0)) (F0 m 7 ls []) := by
    intro  n
    induction n with
    | zero =>
      intro k0 hk0 x2 x3 x4 hr
      rw [f_X3_greatestChapter_b7] at hr
      cases hr
    | succ n ih =>
      intro k0 hk0 x2 x3 x4 hr H locs ls hV hS hl
      rw [f_X3_greatestChapter_b7] at hr
      refine lv_iload hx hb dX3_greatestChapter_7 (lv_at hl 3 rfl) ?_
      refine lv_bipush (v := 24) hx hb dX3_greatestChapter_9 (by decide) ?_
      refine lv_icmp_ge (tgt := 56) hx hb dX3_greatestChapter_11 (by decide) (fun b_1 => ?_) (fun b_1 => ?_)
      · have hr := it b_1 hr
        refine lv_iload_n hx hb dX3_greatestChapter_56 rfl (lv_at hl 2 rfl) ?_
        exact fin_i C hV hS (Option.some.inj hr) dX3_greatestChapter_57
      · have hr := ie b_1 hr
        refine lv_iload_n hx hb dX3_greatestChapter_14 rfl (lv_at hl 1 rfl) ?_
        refine lv_if_eq (tgt := 56) hx hb dX3_greatestChapter_15 (by decide) (fun b_2 => ?_) (fun b_2 => ?_)
        · have hr := it b_2 hr
          refine lv_iload_n hx hb dX3_greatestChapter_56 rfl (lv_at hl 2 rfl) ?_
          exact fin_i C hV hS (Option.some.inj hr) dX3_greatestChapter_57
        · have hr := ie b_2 hr
          refine lv_aload_n hx hb dX3_greatestChapter_18 rfl (lv_at hl 0 rfl) ?_
          refine lv_iload_n hx hb dX3_greatestChapter_19 rfl (lv_at hl 1 rfl) ?_
          obtain ⟨q3, e3, hr⟩ := ob hr
          refine cal_i (run_SN (As := [.int x2]) (rest := [.ref (b0 + k0)]) C hV hS (c_X9_lowestPlace l G b0 V x2 q3 e3) q_496 q_497 q_93 q_498 dk_X9_lowestPlace (rm_ok (by decide) (by decide)) hl.1 rfl (Nat.le_of_ble_eq_true rfl) dX3_greatestChapter_20 ⟨Nat.zero_le _, Nat.zero_le _⟩) hS (fun H locs hV hS => ?_)
          obtain ⟨q4, e4, hr⟩ := ob hr
          refine cal_i (run_V (As := [.int q3]) (rest := []) C hV hS (c_X3_chapterAt l G b0 V k0 hk0 q3 q4 e4) (rcv hK hV (kd_lt hk0 (by decide)) (cel_5 hk0) rfl) q_505 q_507 q_4 q_95 q_508 dk_X3_chapterAt (rm_ok (by decide) (by decide)) hl.1 rfl (Nat.le_of_ble_eq_true rfl) dX3_greatestChapter_23 ⟨Nat.zero_le _, Nat.zero_le _⟩) hS (fun H locs hV hS => ?_)
          refine lv_istore (lv' := [(5, .int q4), (0, .ref (b0 + k0)), (2, .int x2), (3, .int x3), (4, .int x4)]) hx hb dX3_greatestChapter_26 hl (by decide) rfl (fun ls hl => ?_)
          refine lv_iload hx hb dX3_greatestChapter_28 (lv_at hl 0 rfl) ?_
          obtain ⟨q5, e5, hr⟩ := ob hr
          refine cal_i (run_S (As := [.int q4]) (rest := []) C hV hS (c_J6_bitCount_0f7a4 l G b0 V q4 q5 e5) q_550 q_500 q_104 q_501 dk_J6_bitCount_0f7a4 (rm_ok (by decide) (by decide)) hl.1 rfl (Nat.le_of_ble_eq_true rfl) dX3_greatestChapter_30 ⟨Nat.zero_le _, Nat.zero_le _⟩) hS (fun H locs hV hS => ?_)
          refine lv_iload_n hx hb dX3_greatestChapter_33 rfl (lv_at hl 3 rfl) ?_
          obtain ⟨q6, e6, hr⟩ := ob hr
          refine cal_i (run_S (As := [.int x3]) (rest := [.int q5]) C hV hS (c_J6_bitCount_0f7a4 l G b0 V x3 q6 e6) q_550 q_500 q_104 q_501 dk_J6_bitCount_0f7a4 (rm_ok (by decide) (by decide)) hl.1 rfl (Nat.le_of_ble_eq_true rfl) dX3_greatestChapter_34 ⟨Nat.zero_le _, Nat.zero_le _⟩) hS (fun H locs hV hS => ?_)
          refine lv_icmp_le (tgt := 43) hx hb dX3_greatestChapter_37 (by decide) (fun b_7 => ?_) (fun b_7 => ?_)
          · have hr := it b_7 hr
            exact K_43 (fun V k0 x2 x3 x4 => f_X3_greatestChapter_b7 n V k0 x2 x3 x4) (fun k0 hk0 x2 x3 x4 hr => ih k0 hk0 x2 x3 x4 hr) k0 hk0 x2 x3 x4 q4 hr _ _ ls hV hS (lv_sub hl [1, 2, 3, 4, 0] rfl)
          · have hr := ie b_7 hr
            refine lv_iload hx hb dX3_greatestChapter_40 (lv_at hl 0 rfl) ?_
            refine lv_istore_n (lv' := [(3, .int q4), (5, .int q4), (0, .ref (b0 + k0)), (2, .int x2), (4, .int x4)]) hx hb dX3_greatestChapter_42 rfl hl (by decide) rfl (fun ls hl => ?_)
            exact K_43 (fun V k0 x2 x3 x4 => f_X3_greatestChapter_b7 n V k0 x2 x3 x4) (fun k0 hk0 x2 x3 x4 hr => ih k0 hk0 x2 x3 x4 hr) k0 hk0 x2 q4 x4 q4 hr _ _ ls hV hS (lv_sub hl [2, 3, 0, 4, 1] rfl)
  unfold f_X3_greatestChapter at hr
  refine lv_iload_n hx hb dX3_greatestChapter_0 rfl (lv_at hl 1 rfl) ?_
  refine lv_istore_n (lv' := [(2, .int x1), (0, .ref (b0 + k0)), (1, .int x1)]) hx hb dX3_greatestChapter_1 rfl hl (by decide) rfl (fun ls hl => ?_)
  refine lv_iconst (v := 0) hx hb dX3_greatestChapter_2 (by decide) ?_
  refine lv_istore_n (lv' := [(3, .int 0), (2, .int x1), (0, .ref (b0 + k0)), (1, .int x1)]) hx hb dX3_greatestChapter_3 rfl hl (by decide) rfl (fun ls hl => ?_)
  refine lv_iconst (v := 0) hx hb dX3_greatestChapter_4 (by decide) ?_
  refine lv_istore (lv' := [(4, .int 0), (3, .int 0), (2, .int x1), (0, .ref (b0 + k0)), (1, .int x1)]) hx hb dX3_greatestChapter_5 hl (by decide) rfl (fun ls hl => ?_)
  exact K_7 500 k0 hk0 x1 0 0 hr _ _ ls hV hS (lv_sub hl [3, 2, 1, 0] rfl)
set_option maxHeartbeats 4000000 in
set_option maxRecDepth 100000 in
theorem c_X3_chapterRanked (l : Launch) (G : LG) (b0 : Nat) (V : St) (k0 : Nat) (hk0 : kd k0 = 5) (x1 : Int32) (res : Int32) (hr : f_X3_chapterRanked V k0 x1 = some res) : Met l yX3_chapterRanked (wy yX3_chapterRanked cX3_chapterRanked 4 (some .int)) (rm 3) (va_Pc [.ref (b0 + k0), .int x1] (Iv G b0 V)) (QI G b0 res V) 0 0 (Ab b0) := by
  refine mk_m (by decide +kernel) (Nat.le_of_ble_eq_true rfl) ?_
  intro p e s m below meth c C hV hS ls hl
  obtain ⟨args, hargs⟩ : ∃ z, z = ([.ref (b0 + k0), .int x1] : List Value).toArray := ⟨_, rfl⟩
  rw [← hargs] at C ⊢
  obtain ⟨hx, hb, hrt, hml, hown, hts, hlocks, hK, hSv⟩ := id C
  have hl : lv_has ls 4 [(0, .ref (b0 + k0)), (1, .int x1)] := hl
  have K_19 : ∀ (n : Nat) (k0 : Nat) (hk0 : kd k0 = 5) (x1 : Int32) (x2 : Int32) (x3 : Int32), f_X3_chapterRanked_b19 n V k0 x1 x2 x3 = some res → ∀ (H : Heap) (locs : List Loc) (ls : Array Slot), Hd G b0 V H → va_S (Ab b0) s.heap H locs → lv_has ls 4 [(0, .ref (b0 + k0)), (1, .int x1), (2, .int x2), (3, .int x3)] → W p l e (rm 3) s m args below meth c H locs 0 0 (MQ below (QI G b0 res V) args s 0 0 (Ab b0)) (F0 m 19 ls []) := by
    intro  n
    induction n with
    | zero =>
      intro k0 hk0 x1 x2 x3 hr
      rw [f_X3_chapterRanked_b19] at hr
      cases hr
    | succ n ih =>
      intro k0 hk0 x1 x2 x3 hr H locs ls hV hS hl
      rw [f_X3_chapterRanked_b19] at hr
      refine lv_iload_n hx hb dX3_chapterRanked_19 rfl (lv_at hl 3 rfl) ?_
      refine lv_iload_n hx hb dX3_chapterRanked_20 rfl (lv_at hl 1 rfl) ?_
      refine lv_icmp_ge (tgt := 40) hx hb dX3_chapterRanked_21 (by decide) (fun b_1 => ?_) (fun b_1 => ?_)
      · have hr := it b_1 hr
        refine lv_aload_n hx hb dX3_chapterRanked_40 rfl (lv_at hl 0 rfl) ?_
        refine lv_iload_n hx hb dX3_chapterRanked_41 rfl (lv_at hl 2 rfl) ?_
        obtain ⟨q2, e2, hr⟩ := ob hr
        refine cal_i (run_V (As := [.int x2]) (rest := []) C hV hS (c_X3_greatestChapter l G b0 V k0 hk0 x2 q2 e2) (rcv hK hV (kd_lt hk0 (by decide)) (cel_5 hk0) rfl) q_1377 q_1251 q_68 q_95 q_1252 dk_X3_greatestChapter (rm_ok (by decide) (by decide)) hl.1 rfl (Nat.le_of_ble_eq_true rfl) dX3_chapterRanked_42 ⟨Nat.zero_le _, Nat.zero_le _⟩) hS (fun H locs hV hS => ?_)
        exact fin_i C hV hS (Option.some.inj hr) dX3_chapterRanked_45
      · have hr := ie b_1 hr
        refine lv_iload_n hx hb dX3_chapterRanked_24 rfl (lv_at hl 2 rfl) ?_
        refine lv_aload_n hx hb dX3_chapterRanked_25 rfl (lv_at hl 0 rfl) ?_
        refine lv_iload_n hx hb dX3_chapterRanked_26 rfl (lv_at hl 2 rfl) ?_
        obtain ⟨q3, e3, hr⟩ := ob hr
        refine cal_i (run_V (As := [.int x2]) (rest := [.int x2]) C hV hS (c_X3_greatestChapter l G b0 V k0 hk0 x2 q3 e3) (rcv hK hV (kd_lt hk0 (by decide)) (cel_5 hk0) rfl) q_1377 q_1251 q_68 q_95 q_1252 dk_X3_greatestChapter (rm_ok (by decide) (by decide)) hl.1 rfl (Nat.le_of_ble_eq_true rfl) dX3_chapterRanked_27 ⟨Nat.zero_le _, Nat.zero_le _⟩) hS (fun H locs hV hS => ?_)
        refine lv_iconst (v := (-1)) hx hb dX3_chapterRanked_30 (by decide) ?_
        refine lv_ixor hx hb dX3_chapterRanked_31 ?_
        refine lv_iand hx hb dX3_chapterRanked_32 ?_
        refine lv_istore_n (lv' := [(2, .int (x2 &&& (q3 ^^^ (-1)))), (0, .ref (b0 + k0)), (1, .int x1), (3, .int x3)]) hx hb dX3_chapterRanked_33 rfl hl (by decide) rfl (fun ls hl => ?_)
        refine lv_iinc (v := x3 + 1) (lv' := [(3, .int (x3 + 1)), (2, .int (x2 &&& (q3 ^^^ (-1)))), (0, .ref (b0 + k0)), (1, .int x1)]) hx hb dX3_chapterRanked_34 hl (k := 3) rfl rfl (by decide) rfl (fun ls hl => ?_)
        refine lv_goto (tgt := 19) hx hb dX3_chapterRanked_37 (by decide) ?_
        exact ih k0 hk0 x1 (x2 &&& (q3 ^^^ (-1))) (x3 + 1) hr _ _ ls hV hS (lv_sub hl [2, 3, 1, 0] rfl)
  unfold f_X3_chapterRanked at hr
  refine lv_iload_n hx hb dX3_chapterRanked_0 rfl (lv_at hl 1 rfl) ?_
  refine lv_if_lt (tgt := 10) hx hb dX3_chapterRanked_1 (by decide) (fun b_4 => ?_) (fun b_4 => ?_)
  · have hr := it b_4 hr
    refine lv_iconst (v := 0) hx hb dX3_chapterRanked_10 (by decide) ?_
    exact fin_i C hV hS (Option.some.inj hr) dX3_chapterRanked_11
  · have hr := ie b_4 hr
    refine lv_iload_n hx hb dX3_chapterRanked_4 rfl (lv_at hl 1 rfl) ?_
    refine lv_bipush (v := 24) hx hb dX3_chapterRanked_5 (by decide) ?_
    refine lv_icmp_lt (tgt := 12) hx hb dX3_chapterRanked_7 (by decide) (fun b_5 => ?_) (fun b_5 => ?_)
    · have hr := it b_5 hr
      refine lv_aload_n hx hb dX3_chapterRanked_12 rfl (lv_at hl 0 rfl) ?_
      obtain ⟨q6, e6, hr⟩ := ob hr
      refine cal_i (run_V (As := []) (rest := []) C hV hS (c_X3_knots l G b0 V k0 hk0 q6 e6) (rcv hK hV (kd_lt hk0 (by decide)) (cel_5 hk0) rfl) q_492 q_494 q_3 q_95 q_495 dk_X3_knots (rm_ok (by decide) (by decide)) hl.1 rfl (Nat.le_of_ble_eq_true rfl) dX3_chapterRanked_13 ⟨Nat.zero_le _, Nat.zero_le _⟩) hS (fun H locs hV hS => ?_)
      refine lv_istore_n (lv' := [(2, .int q6), (0, .ref (b0 + k0)), (1, .int x1)]) hx hb dX3_chapterRanked_16 rfl hl (by decide) rfl (fun ls hl => ?_)
      refine lv_iconst (v := 0) hx hb dX3_chapterRanked_17 (by decide) ?_
      refine lv_istore_n (lv' := [(3, .int 0), (2, .int q6), (0, .ref (b0 + k0)), (1, .int x1)]) hx hb dX3_chapterRanked_18 rfl hl (by decide) rfl (fun ls hl => ?_)
      exact K_19 500 k0 hk0 x1 q6 0 hr _ _ ls hV hS (lv_sub hl [2, 3, 1, 0] rfl)
    · have hr := ie b_5 hr
      refine lv_iconst (v := 0) hx hb dX3_chapterRanked_10 (by decide) ?_
      exact fin_i C hV hS (Option.some.inj hr) dX3_chapterRanked_11
set_option maxHeartbeats 4000000 in
set_option maxRecDepth 100000 in
theorem c_X9_areBeside (l : Launch) (G : LG) (b0 : Nat) (V : St) (x0 : Int32) (x1 : Int32) (res : Int32) (hr : f_X9_areBeside x0 x1 = some res) : Met l yX9_areBeside (wy yX9_areBeside cX9_areBeside 4 (some .boolean)) (rm 1) (va_Pc [.int x0, .int x1] (Iv G b0 V)) (QI G b0 res V) 0 0 (Ab b0) := by
  refine mk_m (by decide +kernel) (Nat.le_of_ble_eq_true rfl) ?_
  intro p e s m below meth c C hV hS ls hl
  obtain ⟨args, hargs⟩ : ∃ z, z = ([.int x0, .int x1] : List Value).toArray := ⟨_, rfl⟩
  rw [← hargs] at C ⊢
  obtain ⟨hx, hb, hrt, hml, hown, hts, hlocks, hK, hSv⟩ := id C
  have hl : lv_has ls 4 [(0, .int x0), (1, .int x1)] := hl
  have K_51 : f_X9_areBeside_b51  = some res → ∀ (H : Heap) (locs : List Loc) (ls : Array Slot), Hd G b0 V H → va_S (Ab b0) s.heap H locs → lv_has ls 4 [] → W p l e (rm 1) s m args below meth c H locs 0 0 (MQ below (QI G b0 res V) args s 0 0 (Ab b0)) (F0 m 51 ls []) := by
    intro  hr H locs ls hV hS hl
    unfold f_X9_areBeside_b51 at hr
    refine lv_iconst (v := 1) hx hb dX9_areBeside_51 (by decide) ?_
    refine lv_goto (tgt := 56) hx hb dX9_areBeside_52 (by decide) ?_
    exact fin_z C hV hS (by decide) (Option.some.inj hr) dX9_areBeside_56
  have K_45 : ∀ (x3 : Int32), f_X9_areBeside_b45 x3 = some res → ∀ (H : Heap) (locs : List Loc) (ls : Array Slot), Hd G b0 V H → va_S (Ab b0) s.heap H locs → lv_has ls 4 [(3, .int x3)] → W p l e (rm 1) s m args below meth c H locs 0 0 (MQ below (QI G b0 res V) args s 0 0 (Ab b0)) (F0 m 45 ls []) := by
    intro x3 hr H locs ls hV hS hl
    unfold f_X9_areBeside_b45 at hr
    refine lv_iload_n hx hb dX9_areBeside_45 rfl (lv_at hl 0 rfl) ?_
    refine lv_bipush (v := 6) hx hb dX9_areBeside_46 (by decide) ?_
    refine lv_icmp_ne (tgt := 55) hx hb dX9_areBeside_48 (by decide) (fun b_1 => ?_) (fun b_1 => ?_)
    · have hr := ie b_1 hr
      refine lv_iconst (v := 0) hx hb dX9_areBeside_55 (by decide) ?_
      exact fin_z C hV hS (by decide) (Option.some.inj hr) dX9_areBeside_56
    · have hr := it b_1 hr
      exact K_51  hr _ _ ls hV hS (lv_sub hl [] rfl)
  unfold f_X9_areBeside at hr
  refine lv_iload_n hx hb dX9_areBeside_0 rfl (lv_at hl 0 rfl) ?_
  obtain ⟨q2, e2, hr⟩ := ob hr
  refine cal_i (run_S (As := [.int x0]) (rest := []) C hV hS (c_X9_isPlace l G b0 V x0 q2 e2) q_616 q_617 q_93 q_618 dk_X9_isPlace (rm_ok (by decide) (by decide)) hl.1 rfl (Nat.le_of_ble_eq_true rfl) dX9_areBeside_1 ⟨Nat.zero_le _, Nat.zero_le _⟩) hS (fun H locs hV hS => ?_)
  refine lv_if_eq (tgt := 14) hx hb dX9_areBeside_4 (by decide) (fun b_3 => ?_) (fun b_3 => ?_)
  · have hr := it b_3 hr
    refine lv_iconst (v := 0) hx hb dX9_areBeside_14 (by decide) ?_
    exact fin_z C hV hS (by decide) (Option.some.inj hr) dX9_areBeside_15
  · have hr := ie b_3 hr
    refine lv_iload_n hx hb dX9_areBeside_7 rfl (lv_at hl 1 rfl) ?_
    obtain ⟨q4, e4, hr⟩ := ob hr
    refine cal_i (run_S (As := [.int x1]) (rest := []) C hV hS (c_X9_isPlace l G b0 V x1 q4 e4) q_616 q_617 q_93 q_618 dk_X9_isPlace (rm_ok (by decide) (by decide)) hl.1 rfl (Nat.le_of_ble_eq_true rfl) dX9_areBeside_8 ⟨Nat.zero_le _, Nat.zero_le _⟩) hS (fun H locs hV hS => ?_)
    refine lv_if_ne (tgt := 16) hx hb dX9_areBeside_11 (by decide) (fun b_5 => ?_) (fun b_5 => ?_)
    · have hr := ie b_5 hr
      refine lv_iload_n hx hb dX9_areBeside_16 rfl (lv_at hl 0 rfl) ?_
      refine lv_iload_n hx hb dX9_areBeside_17 rfl (lv_at hl 1 rfl) ?_
      refine r_min (D := 0) C q_702 q_703 q_112 q_704 hl.1 ⟨rfl, rfl⟩ (Nat.le_of_ble_eq_true rfl) ⟨Nat.zero_le _, Nat.zero_le _⟩ dX9_areBeside_18 ?_
      refine W.eq (g2 := F0 m 21 ls [.int (imin x0 x1)]) rfl ?_
      refine lv_istore_n (lv' := [(2, .int (imin x0 x1)), (0, .int x0), (1, .int x1)]) hx hb dX9_areBeside_21 rfl hl (by decide) rfl (fun ls hl => ?_)
      refine lv_iload_n hx hb dX9_areBeside_22 rfl (lv_at hl 1 rfl) ?_
      refine lv_iload_n hx hb dX9_areBeside_23 rfl (lv_at hl 2 rfl) ?_
      refine r_max (D := 0) C q_705 q_706 q_112 q_707 hl.1 ⟨rfl, rfl⟩ (Nat.le_of_ble_eq_true rfl) ⟨Nat.zero_le _, Nat.zero_le _⟩ dX9_areBeside_24 ?_
      refine W.eq (g2 := F0 m 27 ls [.int (imax x0 x1)]) rfl ?_
      refine lv_iload_n hx hb dX9_areBeside_27 rfl (lv_at hl 0 rfl) ?_
      refine lv_isub hx hb dX9_areBeside_28 ?_
      refine lv_istore_n (lv' := [(3, .int ((imax x0 x1) - (imin x0 x1))), (2, .int (imin x0 x1)), (0, .int x0), (1, .int x1)]) hx hb dX9_areBeside_29 rfl hl (by decide) rfl (fun ls hl => ?_)
      refine lv_iload_n hx hb dX9_areBeside_30 rfl (lv_at hl 0 rfl) ?_
      refine lv_iconst (v := 1) hx hb dX9_areBeside_31 (by decide) ?_
      refine lv_icmp_ne (tgt := 45) hx hb dX9_areBeside_32 (by decide) (fun b_6 => ?_) (fun b_6 => ?_)
      · have hr := ie b_6 hr
        exact K_45 ((imax x0 x1) - (imin x0 x1)) hr _ _ ls hV hS (lv_sub hl [0] rfl)
      · have hr := it b_6 hr
        refine lv_ldcw (v := 8255455) hx hb hown (hts _ q_708) dX9_areBeside_35 ?_
        refine lv_iload_n hx hb dX9_areBeside_38 rfl (lv_at hl 1 rfl) ?_
        obtain ⟨q7, e7, hr⟩ := ob hr
        refine cal_i (run_S (As := [.int 8255455, .int (imin x0 x1)]) (rest := []) C hV hS (c_X9_isIn l G b0 V 8255455 (imin x0 x1) q7 e7) q_709 q_624 q_93 q_625 dk_X9_isIn (rm_ok (by decide) (by decide)) hl.1 rfl (Nat.le_of_ble_eq_true rfl) dX9_areBeside_39 ⟨Nat.zero_le _, Nat.zero_le _⟩) hS (fun H locs hV hS => ?_)
        refine lv_if_ne (tgt := 51) hx hb dX9_areBeside_42 (by decide) (fun b_8 => ?_) (fun b_8 => ?_)
        · have hr := ie b_8 hr
          exact K_51  hr _ _ ls hV hS (lv_sub hl [] rfl)
        · have hr := it b_8 hr
          exact K_45 ((imax x0 x1) - (imin x0 x1)) hr _ _ ls hV hS (lv_sub hl [0] rfl)
    · have hr := it b_5 hr
      refine lv_iconst (v := 0) hx hb dX9_areBeside_14 (by decide) ?_
      exact fin_z C hV hS (by decide) (Option.some.inj hr) dX9_areBeside_15
set_option maxHeartbeats 4000000 in
set_option maxRecDepth 100000 in
theorem c_X3_knotsJoinedBy (l : Launch) (G : LG) (b0 : Nat) (V : St) (k0 : Nat) (hk0 : kd k0 = 5) (x1 : Int32) (x2 : Int32) (res : Int32) (hr : f_X3_knotsJoinedBy V k0 x1 x2 = some res) : Met l yX3_knotsJoinedBy (wy yX3_knotsJoinedBy cX3_knotsJoinedBy 5 (some .int)) (rm 3) (va_Pc [.ref (b0 + k0), .int x1, .int x2] (Iv G b0 V)) (QI G b0 res V) 0 0 (Ab b0) := by
  refine mk_m (by decide +kernel) (Nat.le_of_ble_eq_true rfl) ?_
  intro p e s m below meth c C hV hS ls hl
  obtain ⟨args, hargs⟩ : ∃ z, z = ([.ref (b0 + k0), .int x1, .int x2] : List Value).toArray := ⟨_, rfl⟩
  rw [← hargs] at C ⊢
  obtain ⟨hx, hb, hrt, hml, hown, hts, hlocks, hK, hSv⟩ := id C
  have hl : lv_has ls 5 [(0, .ref (b0 + k0)), (1, .int x1), (2, .int x2)] := hl
  unfold f_X3_knotsJoinedBy at hr
  refine lv_iload_n hx hb dX3_knotsJoinedBy_0 rfl (lv_at hl 1 rfl) ?_
  refine lv_iload_n hx hb dX3_knotsJoinedBy_1 rfl (lv_at hl 2 rfl) ?_
  obtain ⟨q1, e1, hr⟩ := ob hr
  refine cal_i (run_SN (As := [.int x1, .int x2]) (rest := []) C hV hS (c_X9_areBeside l G b0 V x1 x2 q1 e1) q_1394 q_700 q_93 q_701 dk_X9_areBeside (rm_ok (by decide) (by decide)) hl.1 rfl (Nat.le_of_ble_eq_true rfl) dX3_knotsJoinedBy_2 ⟨Nat.zero_le _, Nat.zero_le _⟩) hS (fun H locs hV hS => ?_)
  refine lv_if_eq (tgt := 17) hx hb dX3_knotsJoinedBy_5 (by decide) (fun b_2 => ?_) (fun b_2 => ?_)
  · have hr := it b_2 hr
    refine lv_iconst (v := 0) hx hb dX3_knotsJoinedBy_17 (by decide) ?_
    exact fin_i C hV hS (Option.some.inj hr) dX3_knotsJoinedBy_18
  · have hr := ie b_2 hr
    refine lv_aload_n hx hb dX3_knotsJoinedBy_8 rfl (lv_at hl 0 rfl) ?_
    refine lv_iload_n hx hb dX3_knotsJoinedBy_9 rfl (lv_at hl 1 rfl) ?_
    refine lv_iload_n hx hb dX3_knotsJoinedBy_10 rfl (lv_at hl 2 rfl) ?_
    obtain ⟨q3, e3, hr⟩ := ob hr
    refine cal_i (run_V (As := [.int x1, .int x2]) (rest := []) C hV hS (c_X3_isTornBetween l G b0 V k0 hk0 x1 x2 q3 e3) (rcv hK hV (kd_lt hk0 (by decide)) (cel_5 hk0) rfl) q_1395 q_712 q_32 q_95 q_713 dk_X3_isTornBetween (rm_ok (by decide) (by decide)) hl.1 rfl (Nat.le_of_ble_eq_true rfl) dX3_knotsJoinedBy_11 ⟨Nat.zero_le _, Nat.zero_le _⟩) hS (fun H locs hV hS => ?_)
    refine lv_if_ne (tgt := 19) hx hb dX3_knotsJoinedBy_14 (by decide) (fun b_4 => ?_) (fun b_4 => ?_)
    · have hr := ie b_4 hr
      refine lv_aload_n hx hb dX3_knotsJoinedBy_19 rfl (lv_at hl 0 rfl) ?_
      refine lv_iload_n hx hb dX3_knotsJoinedBy_20 rfl (lv_at hl 1 rfl) ?_
      obtain ⟨q5, e5, hr⟩ := ob hr
      refine cal_i (run_V (As := [.int x1]) (rest := []) C hV hS (c_X3_chapterAt l G b0 V k0 hk0 x1 q5 e5) (rcv hK hV (kd_lt hk0 (by decide)) (cel_5 hk0) rfl) q_505 q_507 q_4 q_95 q_508 dk_X3_chapterAt (rm_ok (by decide) (by decide)) hl.1 rfl (Nat.le_of_ble_eq_true rfl) dX3_knotsJoinedBy_21 ⟨Nat.zero_le _, Nat.zero_le _⟩) hS (fun H locs hV hS => ?_)
      refine lv_istore_n (lv' := [(3, .int q5), (0, .ref (b0 + k0)), (1, .int x1), (2, .int x2)]) hx hb dX3_knotsJoinedBy_24 rfl hl (by decide) rfl (fun ls hl => ?_)
      refine lv_aload_n hx hb dX3_knotsJoinedBy_25 rfl (lv_at hl 1 rfl) ?_
      refine lv_iload_n hx hb dX3_knotsJoinedBy_26 rfl (lv_at hl 3 rfl) ?_
      obtain ⟨q6, e6, hr⟩ := ob hr
      refine cal_i (run_V (As := [.int x2]) (rest := []) C hV hS (c_X3_chapterAt l G b0 V k0 hk0 x2 q6 e6) (rcv hK hV (kd_lt hk0 (by decide)) (cel_5 hk0) rfl) q_505 q_507 q_4 q_95 q_508 dk_X3_chapterAt (rm_ok (by decide) (by decide)) hl.1 rfl (Nat.le_of_ble_eq_true rfl) dX3_knotsJoinedBy_27 ⟨Nat.zero_le _, Nat.zero_le _⟩) hS (fun H locs hV hS => ?_)
      refine lv_istore (lv' := [(4, .int q6), (3, .int q5), (0, .ref (b0 + k0)), (1, .int x1), (2, .int x2)]) hx hb dX3_knotsJoinedBy_30 hl (by decide) rfl (fun ls hl => ?_)
      refine lv_iload_n hx hb dX3_knotsJoinedBy_32 rfl (lv_at hl 1 rfl) ?_
      refine lv_if_eq (tgt := 47) hx hb dX3_knotsJoinedBy_33 (by decide) (fun b_7 => ?_) (fun b_7 => ?_)
      · have hr := it b_7 hr
        refine lv_iconst (v := 0) hx hb dX3_knotsJoinedBy_47 (by decide) ?_
        exact fin_i C hV hS (Option.some.inj hr) dX3_knotsJoinedBy_48
      · have hr := ie b_7 hr
        refine lv_iload hx hb dX3_knotsJoinedBy_36 (lv_at hl 0 rfl) ?_
        refine lv_if_eq (tgt := 47) hx hb dX3_knotsJoinedBy_38 (by decide) (fun b_8 => ?_) (fun b_8 => ?_)
        · have hr := it b_8 hr
          refine lv_iconst (v := 0) hx hb dX3_knotsJoinedBy_47 (by decide) ?_
          exact fin_i C hV hS (Option.some.inj hr) dX3_knotsJoinedBy_48
        · have hr := ie b_8 hr
          refine lv_iload_n hx hb dX3_knotsJoinedBy_41 rfl (lv_at hl 1 rfl) ?_
          refine lv_iload hx hb dX3_knotsJoinedBy_42 (lv_at hl 0 rfl) ?_
          refine lv_icmp_ne (tgt := 49) hx hb dX3_knotsJoinedBy_44 (by decide) (fun b_9 => ?_) (fun b_9 => ?_)
          · have hr := ie b_9 hr
            refine lv_iload_n hx hb dX3_knotsJoinedBy_49 rfl (lv_at hl 1 rfl) ?_
            refine lv_iload hx hb dX3_knotsJoinedBy_50 (lv_at hl 0 rfl) ?_
            refine lv_ior hx hb dX3_knotsJoinedBy_52 ?_
            obtain ⟨q10, e10, hr⟩ := ob hr
            refine cal_i (run_S (As := [.int (q5 ||| q6)]) (rest := []) C hV hS (c_J6_bitCount_0f7a4 l G b0 V (q5 ||| q6) q10 e10) q_550 q_500 q_104 q_501 dk_J6_bitCount_0f7a4 (rm_ok (by decide) (by decide)) hl.1 rfl (Nat.le_of_ble_eq_true rfl) dX3_knotsJoinedBy_53 ⟨Nat.zero_le _, Nat.zero_le _⟩) hS (fun H locs hV hS => ?_)
            exact fin_i C hV hS (Option.some.inj hr) dX3_knotsJoinedBy_56
          · have hr := it b_9 hr
            refine lv_iconst (v := 0) hx hb dX3_knotsJoinedBy_47 (by decide) ?_
            exact fin_i C hV hS (Option.some.inj hr) dX3_knotsJoinedBy_48
    · have hr := it b_4 hr
      refine lv_iconst (v := 0) hx hb dX3_knotsJoinedBy_17 (by decide) ?_
      exact fin_i C hV hS (Option.some.inj hr) dX3_knotsJoinedBy_18
set_option maxHeartbeats 4000000 in
set_option maxRecDepth 100000 in
theorem c_X9_twineFor (l : Launch) (G : LG) (b0 : Nat) (V : St) (x0 : Int32) (x1 : Int32) (res : Int32) (hr : f_X9_twineFor x0 x1 = some res) : Met l yX9_twineFor (wy yX9_twineFor cX9_twineFor 2 (some .int)) (rm 2) (va_Pc [.int x0, .int x1] (Iv G b0 V)) (QI G b0 res V) 0 0 (Ab b0) := by
  refine mk_m (by decide +kernel) (Nat.le_of_ble_eq_true rfl) ?_
  intro p e s m below meth c C hV hS ls hl
  obtain ⟨args, hargs⟩ : ∃ z, z = ([.int x0, .int x1] : List Value).toArray := ⟨_, rfl⟩
  rw [← hargs] at C ⊢
  obtain ⟨hx, hb, hrt, hml, hown, hts, hlocks, hK, hSv⟩ := id C
  have hl : lv_has ls 2 [(0, .int x0), (1, .int x1)] := hl
  unfold f_X9_twineFor at hr
  refine lv_iload_n hx hb dX9_twineFor_0 rfl (lv_at hl 0 rfl) ?_
  refine lv_iload_n hx hb dX9_twineFor_1 rfl (lv_at hl 1 rfl) ?_
  obtain ⟨q1, e1, hr⟩ := ob hr
  refine cal_i (run_S (As := [.int x0, .int x1]) (rest := []) C hV hS (c_X9_isAcross l G b0 V x0 x1 q1 e1) q_746 q_715 q_93 q_716 dk_X9_isAcross (rm_ok (by decide) (by decide)) hl.1 rfl (Nat.le_of_ble_eq_true rfl) dX9_twineFor_2 ⟨Nat.zero_le _, Nat.zero_le _⟩) hS (fun H locs hV hS => ?_)
  refine lv_if_eq (tgt := 12) hx hb dX9_twineFor_5 (by decide) (fun b_2 => ?_) (fun b_2 => ?_)
  · have hr := it b_2 hr
    refine lv_iconst (v := 2) hx hb dX9_twineFor_12 (by decide) ?_
    exact fin_i C hV hS (Option.some.inj hr) dX9_twineFor_13
  · have hr := ie b_2 hr
    refine lv_iconst (v := 1) hx hb dX9_twineFor_8 (by decide) ?_
    refine lv_goto (tgt := 13) hx hb dX9_twineFor_9 (by decide) ?_
    exact fin_i C hV hS (Option.some.inj hr) dX9_twineFor_13
set_option maxHeartbeats 4000000 in
set_option maxRecDepth 100000 in
theorem c_X3_bestTornString (l : Launch) (G : LG) (b0 : Nat) (V : St) (k0 : Nat) (hk0 : kd k0 = 5) (x1 : Int32) (res : Int32) (hr : f_X3_bestTornString V k0 x1 = some res) : Met l yX3_bestTornString (wy yX3_bestTornString cX3_bestTornString 10 (some .int)) (rm 4) (va_Pc [.ref (b0 + k0), .int x1] (Iv G b0 V)) (QI G b0 res V) 0 0 (Ab b0) := by
  refine mk_m (by decide +kernel) (Nat.le_of_ble_eq_true rfl) ?_
  intro p e s m below meth c C hV hS ls hl
  obtain ⟨args, hargs⟩ : ∃ z, z = ([.ref (b0 + k0), .int x1] : List Value).toArray := ⟨_, rfl⟩
  rw [← hargs] at C ⊢
  obtain ⟨hx, hb, hrt, hml, hown, hts, hlocks, hK, hSv⟩ := id C
  have hl : lv_has ls 10 [(0, .ref (b0 + k0)), (1, .int x1)] := hl
  have K_91 : ∀ (c_20 : St → Nat → Int32 → Int32 → Int32 → Int32 → Int32 → Int32 → Option (Int32)) (hc_20 : ∀ (k0 : Nat) (hk0 : kd k0 = 5) (x1 : Int32) (x2 : Int32) (x3 : Int32) (x4 : Int32) (x5 : Int32) (x6 : Int32), c_20 V k0 x1 x2 x3 x4 x5 x6 = some res → ∀ (H : Heap) (locs : List Loc) (ls : Array Slot), Hd G b0 V H → va_S (Ab b0) s.heap H locs → lv_has ls 10 [(0, .ref (b0 + k0)), (1, .int x1), (2, .int x2), (3, .int x3), (4, .int x4), (5, .int x5), (6, .int x6)] → W p l e (rm 4) s m args below meth c H locs 0 0 (MQ below (QI G b0 res V) args s 0 0 (Ab b0)) (F0 m 20 ls [])) (c_10 : St → Nat → Int32 → Int32 → Int32 → Int32 → Int32 → Option (Int32)) (hc_10 : ∀ (k0 : Nat) (hk0 : kd k0 = 5) (x1 : Int32) (x2 : Int32) (x3 : Int32) (x4 : Int32) (x5 : Int32), c_10 V k0 x1 x2 x3 x4 x5 = some res → ∀ (H : Heap) (locs : List Loc) (ls : Array Slot), Hd G b0 V H → va_S (Ab b0) s.heap H locs → lv_has ls 10 [(0, .ref (b0 + k0)), (1, .int x1), (2, .int x2), (3, .int x3), (4, .int x4), (5, .int x5)] → W p l e (rm 4) s m args below meth c H locs 0 0 (MQ below (QI G b0 res V) args s 0 0 (Ab b0)) (F0 m 10 ls [])) (k0 : Nat) (hk0 : kd k0 = 5) (x1 : Int32) (x2 : Int32) (x3 : Int32) (x4 : Int32) (x5 : Int32) (x6 : Int32), f_X3_bestTornString_b91 c_20 c_10 V k0 x1 x2 x3 x4 x5 x6 = some res → ∀ (H : Heap) (locs : List Loc) (ls : Array Slot), Hd G b0 V H → va_S (Ab b0) s.heap H locs → lv_has ls 10 [(0, .ref (b0 + k0)), (1, .int x1), (2, .int x2), (3, .int x3), (4, .int x4), (5, .int x5), (6, .int x6)] → W p l e (rm 4) s m args below meth c H locs 0 0 (MQ below (QI G b0 res V) args s 0 0 (Ab b0)) (F0 m 91 ls []) := by
    intro c_20 hc_20 c_10 hc_10 k0 hk0 x1 x2 x3 x4 x5 x6 hr H locs ls hV hS hl
    unfold f_X3_bestTornString_b91 at hr
    refine lv_iinc (v := x6 + 5) (lv' := [(6, .int (x6 + 5)), (0, .ref (b0 + k0)), (1, .int x1), (2, .int x2), (3, .int x3), (4, .int x4), (5, .int x5)]) hx hb dX3_bestTornString_91 hl (k := 6) rfl rfl (by decide) rfl (fun ls hl => ?_)
    refine lv_goto (tgt := 20) hx hb dX3_bestTornString_94 (by decide) ?_
    exact hc_20 k0 hk0 x1 x2 x3 x4 x5 (x6 + 5) hr _ _ ls hV hS (lv_sub hl [1, 2, 3, 4, 5, 6, 0] rfl)
  have K_83 : ∀ (c_20 : St → Nat → Int32 → Int32 → Int32 → Int32 → Int32 → Int32 → Option (Int32)) (hc_20 : ∀ (k0 : Nat) (hk0 : kd k0 = 5) (x1 : Int32) (x2 : Int32) (x3 : Int32) (x4 : Int32) (x5 : Int32) (x6 : Int32), c_20 V k0 x1 x2 x3 x4 x5 x6 = some res → ∀ (H : Heap) (locs : List Loc) (ls : Array Slot), Hd G b0 V H → va_S (Ab b0) s.heap H locs → lv_has ls 10 [(0, .ref (b0 + k0)), (1, .int x1), (2, .int x2), (3, .int x3), (4, .int x4), (5, .int x5), (6, .int x6)] → W p l e (rm 4) s m args below meth c H locs 0 0 (MQ below (QI G b0 res V) args s 0 0 (Ab b0)) (F0 m 20 ls [])) (c_10 : St → Nat → Int32 → Int32 → Int32 → Int32 → Int32 → Option (Int32)) (hc_10 : ∀ (k0 : Nat) (hk0 : kd k0 = 5) (x1 : Int32) (x2 : Int32) (x3 : Int32) (x4 : Int32) (x5 : Int32), c_10 V k0 x1 x2 x3 x4 x5 = some res → ∀ (H : Heap) (locs : List Loc) (ls : Array Slot), Hd G b0 V H → va_S (Ab b0) s.heap H locs → lv_has ls 10 [(0, .ref (b0 + k0)), (1, .int x1), (2, .int x2), (3, .int x3), (4, .int x4), (5, .int x5)] → W p l e (rm 4) s m args below meth c H locs 0 0 (MQ below (QI G b0 res V) args s 0 0 (Ab b0)) (F0 m 10 ls [])) (k0 : Nat) (hk0 : kd k0 = 5) (x1 : Int32) (x5 : Int32) (x6 : Int32) (x8 : Int32) (x9 : Int32) (y0 : Int32), f_X3_bestTornString_b83 c_20 c_10 V k0 x1 x5 x6 x8 x9 y0 = some res → ∀ (H : Heap) (locs : List Loc) (ls : Array Slot), Hd G b0 V H → va_S (Ab b0) s.heap H locs → lv_has ls 10 [(0, .ref (b0 + k0)), (1, .int x1), (5, .int x5), (6, .int x6), (8, .int x8), (9, .int x9)] → W p l e (rm 4) s m args below meth c H locs 0 0 (MQ below (QI G b0 res V) args s 0 0 (Ab b0)) (F0 m 83 ls [.int y0]) := by
    intro c_20 hc_20 c_10 hc_10 k0 hk0 x1 x5 x6 x8 x9 y0 hr H locs ls hV hS hl
    unfold f_X3_bestTornString_b83 at hr
    refine lv_istore_n (lv' := [(2, .int y0), (0, .ref (b0 + k0)), (1, .int x1), (5, .int x5), (6, .int x6), (8, .int x8), (9, .int x9)]) hx hb dX3_bestTornString_83 rfl hl (by decide) rfl (fun ls hl => ?_)
    refine lv_iload hx hb dX3_bestTornString_84 (lv_at hl 5 rfl) ?_
    refine lv_istore_n (lv' := [(3, .int x8), (2, .int y0), (0, .ref (b0 + k0)), (1, .int x1), (5, .int x5), (6, .int x6), (8, .int x8), (9, .int x9)]) hx hb dX3_bestTornString_86 rfl hl (by decide) rfl (fun ls hl => ?_)
    refine lv_iload hx hb dX3_bestTornString_87 (lv_at hl 7 rfl) ?_
    refine lv_istore (lv' := [(4, .int x9), (3, .int x8), (2, .int y0), (0, .ref (b0 + k0)), (1, .int x1), (5, .int x5), (6, .int x6), (8, .int x8), (9, .int x9)]) hx hb dX3_bestTornString_89 hl (by decide) rfl (fun ls hl => ?_)
    exact K_91 c_20 hc_20 c_10 hc_10 k0 hk0 x1 y0 x8 x9 x5 x6 hr _ _ ls hV hS (lv_sub hl [3, 4, 2, 1, 0, 5, 6] rfl)
  have K_72 : ∀ (c_20 : St → Nat → Int32 → Int32 → Int32 → Int32 → Int32 → Int32 → Option (Int32)) (hc_20 : ∀ (k0 : Nat) (hk0 : kd k0 = 5) (x1 : Int32) (x2 : Int32) (x3 : Int32) (x4 : Int32) (x5 : Int32) (x6 : Int32), c_20 V k0 x1 x2 x3 x4 x5 x6 = some res → ∀ (H : Heap) (locs : List Loc) (ls : Array Slot), Hd G b0 V H → va_S (Ab b0) s.heap H locs → lv_has ls 10 [(0, .ref (b0 + k0)), (1, .int x1), (2, .int x2), (3, .int x3), (4, .int x4), (5, .int x5), (6, .int x6)] → W p l e (rm 4) s m args below meth c H locs 0 0 (MQ below (QI G b0 res V) args s 0 0 (Ab b0)) (F0 m 20 ls [])) (c_10 : St → Nat → Int32 → Int32 → Int32 → Int32 → Int32 → Option (Int32)) (hc_10 : ∀ (k0 : Nat) (hk0 : kd k0 = 5) (x1 : Int32) (x2 : Int32) (x3 : Int32) (x4 : Int32) (x5 : Int32), c_10 V k0 x1 x2 x3 x4 x5 = some res → ∀ (H : Heap) (locs : List Loc) (ls : Array Slot), Hd G b0 V H → va_S (Ab b0) s.heap H locs → lv_has ls 10 [(0, .ref (b0 + k0)), (1, .int x1), (2, .int x2), (3, .int x3), (4, .int x4), (5, .int x5)] → W p l e (rm 4) s m args below meth c H locs 0 0 (MQ below (QI G b0 res V) args s 0 0 (Ab b0)) (F0 m 10 ls [])) (k0 : Nat) (hk0 : kd k0 = 5) (x1 : Int32) (x5 : Int32) (x6 : Int32) (x7 : Int32) (x8 : Int32) (x9 : Int32), f_X3_bestTornString_b72 c_20 c_10 V k0 x1 x5 x6 x7 x8 x9 = some res → ∀ (H : Heap) (locs : List Loc) (ls : Array Slot), Hd G b0 V H → va_S (Ab b0) s.heap H locs → lv_has ls 10 [(0, .ref (b0 + k0)), (1, .int x1), (5, .int x5), (6, .int x6), (7, .int x7), (8, .int x8), (9, .int x9)] → W p l e (rm 4) s m args below meth c H locs 0 0 (MQ below (QI G b0 res V) args s 0 0 (Ab b0)) (F0 m 72 ls []) := by
    intro c_20 hc_20 c_10 hc_10 k0 hk0 x1 x5 x6 x7 x8 x9 hr H locs ls hV hS hl
    unfold f_X3_bestTornString_b72 at hr
    refine lv_iload_n hx hb dX3_bestTornString_72 rfl (lv_at hl 1 rfl) ?_
    refine lv_if_eq (tgt := 81) hx hb dX3_bestTornString_73 (by decide) (fun b_1 => ?_) (fun b_1 => ?_)
    · have hr := it b_1 hr
      refine lv_iload hx hb dX3_bestTornString_81 (lv_at hl 2 rfl) ?_
      exact K_83 c_20 hc_20 c_10 hc_10 k0 hk0 x1 x5 x6 x8 x9 x5 hr _ _ ls hV hS (lv_sub hl [0, 1, 2, 3, 5, 6] rfl)
    · have hr := ie b_1 hr
      refine lv_iload hx hb dX3_bestTornString_76 (lv_at hl 4 rfl) ?_
      refine lv_goto (tgt := 83) hx hb dX3_bestTornString_78 (by decide) ?_
      exact K_83 c_20 hc_20 c_10 hc_10 k0 hk0 x1 x5 x6 x8 x9 x7 hr _ _ ls hV hS (lv_sub hl [0, 1, 2, 3, 5, 6] rfl)
  have K_20 : ∀ (c_10 : St → Nat → Int32 → Int32 → Int32 → Int32 → Int32 → Option (Int32)) (hc_10 : ∀ (k0 : Nat) (hk0 : kd k0 = 5) (x1 : Int32) (x2 : Int32) (x3 : Int32) (x4 : Int32) (x5 : Int32), c_10 V k0 x1 x2 x3 x4 x5 = some res → ∀ (H : Heap) (locs : List Loc) (ls : Array Slot), Hd G b0 V H → va_S (Ab b0) s.heap H locs → lv_has ls 10 [(0, .ref (b0 + k0)), (1, .int x1), (2, .int x2), (3, .int x3), (4, .int x4), (5, .int x5)] → W p l e (rm 4) s m args below meth c H locs 0 0 (MQ below (QI G b0 res V) args s 0 0 (Ab b0)) (F0 m 10 ls [])) (n : Nat) (k0 : Nat) (hk0 : kd k0 = 5) (x1 : Int32) (x2 : Int32) (x3 : Int32) (x4 : Int32) (x5 : Int32) (x6 : Int32), f_X3_bestTornString_b20 c_10 n V k0 x1 x2 x3 x4 x5 x6 = some res → ∀ (H : Heap) (locs : List Loc) (ls : Array Slot), Hd G b0 V H → va_S (Ab b0) s.heap H locs → lv_has ls 10 [(0, .ref (b0 + k0)), (1, .int x1), (2, .int x2), (3, .int x3), (4, .int x4), (5, .int x5), (6, .int x6)] → W p l e (rm 4) s m args below meth c H locs 0 0 (MQ below (QI G b0 res V) args s 0 0 (Ab b0)) (F0 m 20 ls []) := by
    intro c_10 hc_10 n
    induction n with
    | zero =>
      intro k0 hk0 x1 x2 x3 x4 x5 x6 hr
      rw [f_X3_bestTornString_b20] at hr
      cases hr
    | succ n ih =>
      intro k0 hk0 x1 x2 x3 x4 x5 x6 hr H locs ls hV hS hl
      rw [f_X3_bestTornString_b20] at hr
      refine lv_iload hx hb dX3_bestTornString_20 (lv_at hl 6 rfl) ?_
      refine lv_bipush (v := 6) hx hb dX3_bestTornString_22 (by decide) ?_
      refine lv_icmp_gt (tgt := 97) hx hb dX3_bestTornString_24 (by decide) (fun b_2 => ?_) (fun b_2 => ?_)
      · have hr := it b_2 hr
        refine lv_iinc (v := x5 + 1) (lv' := [(5, .int (x5 + 1)), (0, .ref (b0 + k0)), (1, .int x1), (2, .int x2), (3, .int x3), (4, .int x4), (6, .int x6)]) hx hb dX3_bestTornString_97 hl (k := 5) rfl rfl (by decide) rfl (fun ls hl => ?_)
        refine lv_goto (tgt := 10) hx hb dX3_bestTornString_100 (by decide) ?_
        exact hc_10 k0 hk0 x1 x2 x3 x4 (x5 + 1) hr _ _ ls hV hS (lv_sub hl [1, 2, 3, 4, 5, 0] rfl)
      · have hr := ie b_2 hr
        refine lv_iload hx hb dX3_bestTornString_27 (lv_at hl 5 rfl) ?_
        refine lv_iload hx hb dX3_bestTornString_29 (lv_at hl 6 rfl) ?_
        refine lv_iadd hx hb dX3_bestTornString_31 ?_
        refine lv_istore (lv' := [(7, .int (x5 + x6)), (0, .ref (b0 + k0)), (1, .int x1), (2, .int x2), (3, .int x3), (4, .int x4), (5, .int x5), (6, .int x6)]) hx hb dX3_bestTornString_32 hl (by decide) rfl (fun ls hl => ?_)
        refine lv_aload_n hx hb dX3_bestTornString_34 rfl (lv_at hl 1 rfl) ?_
        refine lv_iload hx hb dX3_bestTornString_35 (lv_at hl 6 rfl) ?_
        refine lv_iload hx hb dX3_bestTornString_37 (lv_at hl 0 rfl) ?_
        obtain ⟨q3, e3, hr⟩ := ob hr
        refine cal_i (run_V (As := [.int x5, .int (x5 + x6)]) (rest := []) C hV hS (c_X3_knotsJoinedBy l G b0 V k0 hk0 x5 (x5 + x6) q3 e3) (rcv hK hV (kd_lt hk0 (by decide)) (cel_5 hk0) rfl) q_1390 q_1392 q_76 q_95 q_1393 dk_X3_knotsJoinedBy (rm_ok (by decide) (by decide)) hl.1 rfl (Nat.le_of_ble_eq_true rfl) dX3_bestTornString_39 ⟨Nat.zero_le _, Nat.zero_le _⟩) hS (fun H locs hV hS => ?_)
        refine lv_istore (lv' := [(8, .int q3), (7, .int (x5 + x6)), (0, .ref (b0 + k0)), (1, .int x1), (2, .int x2), (3, .int x3), (4, .int x4), (5, .int x5), (6, .int x6)]) hx hb dX3_bestTornString_42 hl (by decide) rfl (fun ls hl => ?_)
        refine lv_iload hx hb dX3_bestTornString_44 (lv_at hl 7 rfl) ?_
        refine lv_iload hx hb dX3_bestTornString_46 (lv_at hl 1 rfl) ?_
        obtain ⟨q4, e4, hr⟩ := ob hr
        refine cal_i (run_SN (As := [.int x5, .int (x5 + x6)]) (rest := []) C hV hS (c_X9_twineFor l G b0 V x5 (x5 + x6) q4 e4) q_1396 q_744 q_93 q_745 dk_X9_twineFor (rm_ok (by decide) (by decide)) hl.1 rfl (Nat.le_of_ble_eq_true rfl) dX3_bestTornString_48 ⟨Nat.zero_le _, Nat.zero_le _⟩) hS (fun H locs hV hS => ?_)
        refine lv_istore (lv' := [(9, .int q4), (8, .int q3), (7, .int (x5 + x6)), (0, .ref (b0 + k0)), (1, .int x1), (2, .int x2), (3, .int x3), (4, .int x4), (5, .int x5), (6, .int x6)]) hx hb dX3_bestTornString_51 hl (by decide) rfl (fun ls hl => ?_)
        refine lv_iload hx hb dX3_bestTornString_53 (lv_at hl 1 rfl) ?_
        refine lv_iload_n hx hb dX3_bestTornString_55 rfl (lv_at hl 6 rfl) ?_
        refine lv_icmp_gt (tgt := 72) hx hb dX3_bestTornString_56 (by decide) (fun b_5 => ?_) (fun b_5 => ?_)
        · have hr := it b_5 hr
          exact K_72 (fun V k0 x1 x2 x3 x4 x5 x6 => f_X3_bestTornString_b20 c_10 n V k0 x1 x2 x3 x4 x5 x6) (fun k0 hk0 x1 x2 x3 x4 x5 x6 hr => ih k0 hk0 x1 x2 x3 x4 x5 x6 hr) c_10 hc_10 k0 hk0 x1 x5 x6 (x5 + x6) q3 q4 hr _ _ ls hV hS (lv_sub hl [3, 4, 8, 9, 2, 1, 0] rfl)
        · have hr := ie b_5 hr
          refine lv_iload hx hb dX3_bestTornString_59 (lv_at hl 1 rfl) ?_
          refine lv_iload_n hx hb dX3_bestTornString_61 rfl (lv_at hl 6 rfl) ?_
          refine lv_icmp_ne (tgt := 91) hx hb dX3_bestTornString_62 (by decide) (fun b_6 => ?_) (fun b_6 => ?_)
          · have hr := ie b_6 hr
            exact K_91 (fun V k0 x1 x2 x3 x4 x5 x6 => f_X3_bestTornString_b20 c_10 n V k0 x1 x2 x3 x4 x5 x6) (fun k0 hk0 x1 x2 x3 x4 x5 x6 hr => ih k0 hk0 x1 x2 x3 x4 x5 x6 hr) c_10 hc_10 k0 hk0 x1 x2 x3 x4 x5 x6 hr _ _ ls hV hS (lv_sub hl [3, 4, 5, 6, 7, 8, 9] rfl)
          · have hr := it b_6 hr
            refine lv_iload hx hb dX3_bestTornString_65 (lv_at hl 0 rfl) ?_
            refine lv_iload hx hb dX3_bestTornString_67 (lv_at hl 7 rfl) ?_
            refine lv_icmp_ge (tgt := 91) hx hb dX3_bestTornString_69 (by decide) (fun b_7 => ?_) (fun b_7 => ?_)
            · have hr := it b_7 hr
              exact K_91 (fun V k0 x1 x2 x3 x4 x5 x6 => f_X3_bestTornString_b20 c_10 n V k0 x1 x2 x3 x4 x5 x6) (fun k0 hk0 x1 x2 x3 x4 x5 x6 hr => ih k0 hk0 x1 x2 x3 x4 x5 x6 hr) c_10 hc_10 k0 hk0 x1 x2 x3 x4 x5 x6 hr _ _ ls hV hS (lv_sub hl [3, 4, 5, 6, 7, 8, 9] rfl)
            · have hr := ie b_7 hr
              exact K_72 (fun V k0 x1 x2 x3 x4 x5 x6 => f_X3_bestTornString_b20 c_10 n V k0 x1 x2 x3 x4 x5 x6) (fun k0 hk0 x1 x2 x3 x4 x5 x6 hr => ih k0 hk0 x1 x2 x3 x4 x5 x6 hr) c_10 hc_10 k0 hk0 x1 x5 x6 (x5 + x6) q3 q4 hr _ _ ls hV hS (lv_sub hl [3, 4, 8, 9, 2, 1, 0] rfl)
  have K_10 : ∀ (n : Nat) (k0 : Nat) (hk0 : kd k0 = 5) (x1 : Int32) (x2 : Int32) (x3 : Int32) (x4 : Int32) (x5 : Int32), f_X3_bestTornString_b10 n V k0 x1 x2 x3 x4 x5 = some res → ∀ (H : Heap) (locs : List Loc) (ls : Array Slot), Hd G b0 V H → va_S (Ab b0) s.heap H locs → lv_has ls 10 [(0, .ref (b0 + k0)), (1, .int x1), (2, .int x2), (3, .int x3), (4, .int x4), (5, .int x5)] → W p l e (rm 4) s m args below meth c H locs 0 0 (MQ below (QI G b0 res V) args s 0 0 (Ab b0)) (F0 m 10 ls []) := by
    intro  n
    induction n with
    | zero =>
      intro k0 hk0 x1 x2 x3 x4 x5 hr
      rw [f_X3_bestTornString_b10] at hr
      cases hr
    | succ n ih =>
      intro k0 hk0 x1 x2 x3 x4 x5 hr H locs ls hV hS hl
      rw [f_X3_bestTornString_b10] at hr
      refine lv_iload hx hb dX3_bestTornString_10 (lv_at hl 5 rfl) ?_
      refine lv_bipush (v := 24) hx hb dX3_bestTornString_12 (by decide) ?_
      refine lv_icmp_ge (tgt := 103) hx hb dX3_bestTornString_14 (by decide) (fun b_8 => ?_) (fun b_8 => ?_)
      · have hr := it b_8 hr
        refine lv_iload_n hx hb dX3_bestTornString_103 rfl (lv_at hl 2 rfl) ?_
        exact fin_i C hV hS (Option.some.inj hr) dX3_bestTornString_104
      · have hr := ie b_8 hr
        refine lv_iconst (v := 1) hx hb dX3_bestTornString_17 (by decide) ?_
        refine lv_istore (lv' := [(6, .int 1), (0, .ref (b0 + k0)), (1, .int x1), (2, .int x2), (3, .int x3), (4, .int x4), (5, .int x5)]) hx hb dX3_bestTornString_18 hl (by decide) rfl (fun ls hl => ?_)
        exact K_20 (fun V k0 x1 x2 x3 x4 x5 => f_X3_bestTornString_b10 n V k0 x1 x2 x3 x4 x5) (fun k0 hk0 x1 x2 x3 x4 x5 hr => ih k0 hk0 x1 x2 x3 x4 x5 hr) 500 k0 hk0 x1 x2 x3 x4 x5 1 hr _ _ ls hV hS (lv_sub hl [1, 2, 3, 4, 5, 6, 0] rfl)
  unfold f_X3_bestTornString at hr
  refine lv_iconst (v := (-1)) hx hb dX3_bestTornString_0 (by decide) ?_
  refine lv_istore_n (lv' := [(2, .int (-1)), (0, .ref (b0 + k0)), (1, .int x1)]) hx hb dX3_bestTornString_1 rfl hl (by decide) rfl (fun ls hl => ?_)
  refine lv_iconst (v := 0) hx hb dX3_bestTornString_2 (by decide) ?_
  refine lv_istore_n (lv' := [(3, .int 0), (2, .int (-1)), (0, .ref (b0 + k0)), (1, .int x1)]) hx hb dX3_bestTornString_3 rfl hl (by decide) rfl (fun ls hl => ?_)
  refine lv_iconst (v := 0) hx hb dX3_bestTornString_4 (by decide) ?_
  refine lv_istore (lv' := [(4, .int 0), (3, .int 0), (2, .int (-1)), (0, .ref (b0 + k0)), (1, .int x1)]) hx hb dX3_bestTornString_5 hl (by decide) rfl (fun ls hl => ?_)
  refine lv_iconst (v := 0) hx hb dX3_bestTornString_7 (by decide) ?_
  refine lv_istore (lv' := [(5, .int 0), (4, .int 0), (3, .int 0), (2, .int (-1)), (0, .ref (b0 + k0)), (1, .int x1)]) hx hb dX3_bestTornString_8 hl (by decide) rfl (fun ls hl => ?_)
  exact K_10 500 k0 hk0 x1 (-1) 0 0 0 hr _ _ ls hV hS (lv_sub hl [4, 5, 3, 2, 1, 0] rfl)
set_option maxHeartbeats 4000000 in
set_option maxRecDepth 100000 in
theorem c_X3_hasStringOutOf (l : Launch) (G : LG) (b0 : Nat) (V : St) (k0 : Nat) (hk0 : kd k0 = 5) (x1 : Int32) (res : Int32) (hr : f_X3_hasStringOutOf V k0 x1 = some res) : Met l yX3_hasStringOutOf (wy yX3_hasStringOutOf cX3_hasStringOutOf 2 (some .boolean)) (rm 1) (va_Pc [.ref (b0 + k0), .int x1] (Iv G b0 V)) (QI G b0 res V) 0 0 (Ab b0) := by
  refine mk_m (by decide +kernel) (Nat.le_of_ble_eq_true rfl) ?_
  intro p e s m below meth c C hV hS ls hl
  obtain ⟨args, hargs⟩ : ∃ z, z = ([.ref (b0 + k0), .int x1] : List Value).toArray := ⟨_, rfl⟩
  rw [← hargs] at C ⊢
  obtain ⟨hx, hb, hrt, hml, hown, hts, hlocks, hK, hSv⟩ := id C
  have hl : lv_has ls 2 [(0, .ref (b0 + k0)), (1, .int x1)] := hl
  unfold f_X3_hasStringOutOf at hr
  refine lv_iload_n hx hb dX3_hasStringOutOf_0 rfl (lv_at hl 1 rfl) ?_
  refine lv_aload_n hx hb dX3_hasStringOutOf_1 rfl (lv_at hl 0 rfl) ?_
  obtain ⟨q1, e1, hr⟩ := ob hr
  refine cal_i (run_V (As := []) (rest := [.int x1]) C hV hS (c_X3_wholeAcross l G b0 V k0 hk0 q1 e1) (rcv hK hV (kd_lt hk0 (by decide)) (cel_5 hk0) rfl) q_509 q_511 q_5 q_95 q_512 dk_X3_wholeAcross (rm_ok (by decide) (by decide)) hl.1 rfl (Nat.le_of_ble_eq_true rfl) dX3_hasStringOutOf_2 ⟨Nat.zero_le _, Nat.zero_le _⟩) hS (fun H locs hV hS => ?_)
  refine lv_aload_n hx hb dX3_hasStringOutOf_5 rfl (lv_at hl 0 rfl) ?_
  obtain ⟨q2, e2, hr⟩ := ob hr
  refine cal_i (run_V (As := []) (rest := [.int q1, .int x1]) C hV hS (c_X3_wholeDown l G b0 V k0 hk0 q2 e2) (rcv hK hV (kd_lt hk0 (by decide)) (cel_5 hk0) rfl) q_514 q_516 q_6 q_95 q_517 dk_X3_wholeDown (rm_ok (by decide) (by decide)) hl.1 rfl (Nat.le_of_ble_eq_true rfl) dX3_hasStringOutOf_6 ⟨Nat.zero_le _, Nat.zero_le _⟩) hS (fun H locs hV hS => ?_)
  obtain ⟨q3, e3, hr⟩ := ob hr
  refine cal_i (run_SN (As := [.int x1, .int q1, .int q2]) (rest := []) C hV hS (c_X9_beside l G b0 V x1 q1 q2 q3 e3) q_519 q_520 q_93 q_521 dk_X9_beside (rm_ok (by decide) (by decide)) hl.1 rfl (Nat.le_of_ble_eq_true rfl) dX3_hasStringOutOf_9 ⟨Nat.zero_le _, Nat.zero_le _⟩) hS (fun H locs hV hS => ?_)
  refine lv_aload_n hx hb dX3_hasStringOutOf_12 rfl (lv_at hl 0 rfl) ?_
  obtain ⟨q4, e4, hr⟩ := ob hr
  refine cal_i (run_V (As := []) (rest := [.int q3]) C hV hS (c_X3_knots l G b0 V k0 hk0 q4 e4) (rcv hK hV (kd_lt hk0 (by decide)) (cel_5 hk0) rfl) q_492 q_494 q_3 q_95 q_495 dk_X3_knots (rm_ok (by decide) (by decide)) hl.1 rfl (Nat.le_of_ble_eq_true rfl) dX3_hasStringOutOf_13 ⟨Nat.zero_le _, Nat.zero_le _⟩) hS (fun H locs hV hS => ?_)
  refine lv_iand hx hb dX3_hasStringOutOf_16 ?_
  refine lv_iload_n hx hb dX3_hasStringOutOf_17 rfl (lv_at hl 1 rfl) ?_
  refine lv_iconst (v := (-1)) hx hb dX3_hasStringOutOf_18 (by decide) ?_
  refine lv_ixor hx hb dX3_hasStringOutOf_19 ?_
  refine lv_iand hx hb dX3_hasStringOutOf_20 ?_
  refine lv_if_eq (tgt := 28) hx hb dX3_hasStringOutOf_21 (by decide) (fun b_5 => ?_) (fun b_5 => ?_)
  · have hr := it b_5 hr
    refine lv_iconst (v := 0) hx hb dX3_hasStringOutOf_28 (by decide) ?_
    exact fin_z C hV hS (by decide) (Option.some.inj hr) dX3_hasStringOutOf_29
  · have hr := ie b_5 hr
    refine lv_iconst (v := 1) hx hb dX3_hasStringOutOf_24 (by decide) ?_
    refine lv_goto (tgt := 29) hx hb dX3_hasStringOutOf_25 (by decide) ?_
    exact fin_z C hV hS (by decide) (Option.some.inj hr) dX3_hasStringOutOf_29
