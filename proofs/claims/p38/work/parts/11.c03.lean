set_option maxHeartbeats 4000000 in
set_option maxRecDepth 100000 in
theorem c_X3_leastByStrings (l : Launch) (G : LG) (b0 : Nat) (V : St) (k0 : Nat) (hk0 : kd k0 = 5) (x1 : Int32) (res : Int32 × St) (hr : f_X3_leastByStrings V k0 x1 = some res) : Met l yX3_leastByStrings (wy yX3_leastByStrings cX3_leastByStrings 3 (some .int)) (rm 3) (va_Pc [.ref (b0 + k0), .int x1, .ref (b0 + 190)] (Iv G b0 V)) (QI G b0 res.1 res.2) 0 0 (Ab b0) := by
  refine mk_m (by decide +kernel) (Nat.le_of_ble_eq_true rfl) ?_
  intro p e s m below meth c C hV hS ls hl
  obtain ⟨args, hargs⟩ : ∃ z, z = ([.ref (b0 + k0), .int x1, .ref (b0 + 190)] : List Value).toArray := ⟨_, rfl⟩
  rw [← hargs] at C ⊢
  obtain ⟨hx, hb, hrt, hml, hown, hts, hlocks, hK, hSv⟩ := id C
  have hl : lv_has ls 3 [(0, .ref (b0 + k0)), (1, .int x1), (2, .ref (b0 + 190))] := hl
  unfold f_X3_leastByStrings at hr
  refine lv_aload_n hx hb dX3_leastByStrings_0 rfl (lv_at hl 2 rfl) ?_
  obtain ⟨q1, e1, hr⟩ := ob hr
  refine cal_v (run_VN (As := []) (rest := []) C hV hS (c_X5_separate l G b0 V q1 e1) (rcv hK hV (kd_lt z_190 (by decide)) (cel_10 z_190) rfl) q_1409 q_1411 q_78 q_99 q_1412 dk_X5_separate (rm_ok (by decide) (by decide)) hl.1 rfl (Nat.le_of_ble_eq_true rfl) dX3_leastByStrings_1 ⟨Nat.zero_le _, Nat.zero_le _⟩) hS (fun H locs hV hS => ?_)
  refine lv_aload_n hx hb dX3_leastByStrings_4 rfl (lv_at hl 2 rfl) ?_
  refine lv_iload_n hx hb dX3_leastByStrings_5 rfl (lv_at hl 1 rfl) ?_
  refine lv_aload_n hx hb dX3_leastByStrings_6 rfl (lv_at hl 0 rfl) ?_
  obtain ⟨q2, e2, hr⟩ := ob hr
  refine cal_i (run_V (As := []) (rest := [.int x1, .ref (b0 + 190)]) C hV hS (c_X3_wholeAcross l G b0 q1 k0 hk0 q2 e2) (rcv hK hV (kd_lt hk0 (by decide)) (cel_5 hk0) rfl) q_509 q_511 q_5 q_95 q_512 dk_X3_wholeAcross (rm_ok (by decide) (by decide)) hl.1 rfl (Nat.le_of_ble_eq_true rfl) dX3_leastByStrings_7 ⟨Nat.zero_le _, Nat.zero_le _⟩) hS (fun H locs hV hS => ?_)
  refine lv_iconst (v := 1) hx hb dX3_leastByStrings_10 (by decide) ?_
  obtain ⟨q3, e3, hr⟩ := ob hr
  refine cal_i (run_SN (As := [.int x1, .int q2, .int 1]) (rest := [.ref (b0 + 190)]) C hV hS (c_X9_within l G b0 q1 x1 q2 1 q3 e3) q_1355 q_1356 q_93 q_1357 dk_X9_within (rm_ok (by decide) (by decide)) hl.1 rfl (Nat.le_of_ble_eq_true rfl) dX3_leastByStrings_11 ⟨Nat.zero_le _, Nat.zero_le _⟩) hS (fun H locs hV hS => ?_)
  refine lv_iconst (v := 1) hx hb dX3_leastByStrings_14 (by decide) ?_
  obtain ⟨q4, e4, hr⟩ := ob hr
  refine cal_i (run_VN (As := [.int q3, .int 1]) (rest := []) C hV hS (c_X5_joinAll l G b0 q1 q3 1 q4 e4) (rcv hK hV (kd_lt z_190 (by decide)) (cel_10 z_190) rfl) q_1413 q_1415 q_79 q_99 q_1416 dk_X5_joinAll (rm_ok (by decide) (by decide)) hl.1 rfl (Nat.le_of_ble_eq_true rfl) dX3_leastByStrings_15 ⟨Nat.zero_le _, Nat.zero_le _⟩) hS (fun H locs hV hS => ?_)
  refine lv_pop hx hb dX3_leastByStrings_18 rfl ?_
  refine lv_aload_n hx hb dX3_leastByStrings_19 rfl (lv_at hl 2 rfl) ?_
  refine lv_iload_n hx hb dX3_leastByStrings_20 rfl (lv_at hl 1 rfl) ?_
  refine lv_aload_n hx hb dX3_leastByStrings_21 rfl (lv_at hl 0 rfl) ?_
  obtain ⟨q5, e5, hr⟩ := ob hr
  refine cal_i (run_V (As := []) (rest := [.int x1, .ref (b0 + 190)]) C hV hS (c_X3_wholeDown l G b0 q4.2 k0 hk0 q5 e5) (rcv hK hV (kd_lt hk0 (by decide)) (cel_5 hk0) rfl) q_514 q_516 q_6 q_95 q_517 dk_X3_wholeDown (rm_ok (by decide) (by decide)) hl.1 rfl (Nat.le_of_ble_eq_true rfl) dX3_leastByStrings_22 ⟨Nat.zero_le _, Nat.zero_le _⟩) hS (fun H locs hV hS => ?_)
  refine lv_bipush (v := 6) hx hb dX3_leastByStrings_25 (by decide) ?_
  obtain ⟨q6, e6, hr⟩ := ob hr
  refine cal_i (run_SN (As := [.int x1, .int q5, .int 6]) (rest := [.ref (b0 + 190)]) C hV hS (c_X9_within l G b0 q4.2 x1 q5 6 q6 e6) q_1355 q_1356 q_93 q_1357 dk_X9_within (rm_ok (by decide) (by decide)) hl.1 rfl (Nat.le_of_ble_eq_true rfl) dX3_leastByStrings_27 ⟨Nat.zero_le _, Nat.zero_le _⟩) hS (fun H locs hV hS => ?_)
  refine lv_bipush (v := 6) hx hb dX3_leastByStrings_30 (by decide) ?_
  obtain ⟨q7, e7, hr⟩ := ob hr
  refine cal_i (run_VN (As := [.int q6, .int 6]) (rest := []) C hV hS (c_X5_joinAll l G b0 q4.2 q6 6 q7 e7) (rcv hK hV (kd_lt z_190 (by decide)) (cel_10 z_190) rfl) q_1413 q_1415 q_79 q_99 q_1416 dk_X5_joinAll (rm_ok (by decide) (by decide)) hl.1 rfl (Nat.le_of_ble_eq_true rfl) dX3_leastByStrings_32 ⟨Nat.zero_le _, Nat.zero_le _⟩) hS (fun H locs hV hS => ?_)
  refine lv_pop hx hb dX3_leastByStrings_35 rfl ?_
  refine lv_iconst (v := 1) hx hb dX3_leastByStrings_36 (by decide) ?_
  refine lv_aload_n hx hb dX3_leastByStrings_37 rfl (lv_at hl 2 rfl) ?_
  refine lv_iload_n hx hb dX3_leastByStrings_38 rfl (lv_at hl 1 rfl) ?_
  refine lv_aload_n hx hb dX3_leastByStrings_39 rfl (lv_at hl 0 rfl) ?_
  refine g_X3_2 (k := k0) C hV hk0 q_158 dX3_leastByStrings_40 ?_
  refine lv_iconst (v := 1) hx hb dX3_leastByStrings_43 (by decide) ?_
  obtain ⟨q8, e8, hr⟩ := ob hr
  refine cal_i (run_SN (As := [.int x1, .int (q7.2 k0 2), .int 1]) (rest := [.ref (b0 + 190), .int 1]) C hV hS (c_X9_within l G b0 q7.2 x1 (q7.2 k0 2) 1 q8 e8) q_1355 q_1356 q_93 q_1357 dk_X9_within (rm_ok (by decide) (by decide)) hl.1 rfl (Nat.le_of_ble_eq_true rfl) dX3_leastByStrings_44 ⟨Nat.zero_le _, Nat.zero_le _⟩) hS (fun H locs hV hS => ?_)
  refine lv_iconst (v := 1) hx hb dX3_leastByStrings_47 (by decide) ?_
  obtain ⟨q9, e9, hr⟩ := ob hr
  refine cal_i (run_VN (As := [.int q8, .int 1]) (rest := [.int 1]) C hV hS (c_X5_joinAll l G b0 q7.2 q8 1 q9 e9) (rcv hK hV (kd_lt z_190 (by decide)) (cel_10 z_190) rfl) q_1413 q_1415 q_79 q_99 q_1416 dk_X5_joinAll (rm_ok (by decide) (by decide)) hl.1 rfl (Nat.le_of_ble_eq_true rfl) dX3_leastByStrings_48 ⟨Nat.zero_le _, Nat.zero_le _⟩) hS (fun H locs hV hS => ?_)
  refine lv_imul hx hb dX3_leastByStrings_51 ?_
  refine lv_iconst (v := 2) hx hb dX3_leastByStrings_52 (by decide) ?_
  refine lv_aload_n hx hb dX3_leastByStrings_53 rfl (lv_at hl 2 rfl) ?_
  refine lv_iload_n hx hb dX3_leastByStrings_54 rfl (lv_at hl 1 rfl) ?_
  refine lv_aload_n hx hb dX3_leastByStrings_55 rfl (lv_at hl 0 rfl) ?_
  refine g_X3_3 (k := k0) C hV hk0 q_159 dX3_leastByStrings_56 ?_
  refine lv_bipush (v := 6) hx hb dX3_leastByStrings_59 (by decide) ?_
  obtain ⟨q10, e10, hr⟩ := ob hr
  refine cal_i (run_SN (As := [.int x1, .int (q9.2 k0 3), .int 6]) (rest := [.ref (b0 + 190), .int 2, .int (1 * q9.1)]) C hV hS (c_X9_within l G b0 q9.2 x1 (q9.2 k0 3) 6 q10 e10) q_1355 q_1356 q_93 q_1357 dk_X9_within (rm_ok (by decide) (by decide)) hl.1 rfl (Nat.le_of_ble_eq_true rfl) dX3_leastByStrings_61 ⟨Nat.zero_le _, Nat.zero_le _⟩) hS (fun H locs hV hS => ?_)
  refine lv_bipush (v := 6) hx hb dX3_leastByStrings_64 (by decide) ?_
  obtain ⟨q11, e11, hr⟩ := ob hr
  refine cal_i (run_VN (As := [.int q10, .int 6]) (rest := [.int 2, .int (1 * q9.1)]) C hV hS (c_X5_joinAll l G b0 q9.2 q10 6 q11 e11) (rcv hK hV (kd_lt z_190 (by decide)) (cel_10 z_190) rfl) q_1413 q_1415 q_79 q_99 q_1416 dk_X5_joinAll (rm_ok (by decide) (by decide)) hl.1 rfl (Nat.le_of_ble_eq_true rfl) dX3_leastByStrings_66 ⟨Nat.zero_le _, Nat.zero_le _⟩) hS (fun H locs hV hS => ?_)
  refine lv_imul hx hb dX3_leastByStrings_69 ?_
  refine lv_iadd hx hb dX3_leastByStrings_70 ?_
  rw [← Option.some.inj hr]
  exact fin_i C hV hS rfl dX3_leastByStrings_71
set_option maxHeartbeats 4000000 in
set_option maxRecDepth 100000 in
theorem c_X3_leastByPlaces (l : Launch) (G : LG) (b0 : Nat) (V : St) (k0 : Nat) (hk0 : kd k0 = 5) (x1 : Int32) (res : Int32) (hr : f_X3_leastByPlaces V k0 x1 = some res) : Met l yX3_leastByPlaces (wy yX3_leastByPlaces cX3_leastByPlaces 8 (some .int)) (rm 1) (va_Pc [.ref (b0 + k0), .int x1] (Iv G b0 V)) (QI G b0 res V) 0 0 (Ab b0) := by
  refine mk_m (by decide +kernel) (Nat.le_of_ble_eq_true rfl) ?_
  intro p e s m below meth c C hV hS ls hl
  obtain ⟨args, hargs⟩ : ∃ z, z = ([.ref (b0 + k0), .int x1] : List Value).toArray := ⟨_, rfl⟩
  rw [← hargs] at C ⊢
  obtain ⟨hx, hb, hrt, hml, hown, hts, hlocks, hK, hSv⟩ := id C
  have hl : lv_has ls 8 [(0, .ref (b0 + k0)), (1, .int x1)] := hl
  have K_93 : ∀ (c_10 : St → Nat → Int32 → Int32 → Int32 → Int32 → Option (Int32)) (hc_10 : ∀ (k0 : Nat) (hk0 : kd k0 = 5) (x1 : Int32) (x2 : Int32) (x3 : Int32) (x4 : Int32), c_10 V k0 x1 x2 x3 x4 = some res → ∀ (H : Heap) (locs : List Loc) (ls : Array Slot), Hd G b0 V H → va_S (Ab b0) s.heap H locs → lv_has ls 8 [(0, .ref (b0 + k0)), (1, .int x1), (2, .int x2), (3, .int x3), (4, .int x4)] → W p l e (rm 1) s m args below meth c H locs 0 0 (MQ below (QI G b0 res V) args s 0 0 (Ab b0)) (F0 m 10 ls [])) (k0 : Nat) (hk0 : kd k0 = 5) (x1 : Int32) (x2 : Int32) (x3 : Int32) (x4 : Int32) (x6 : Int32) (x7 : Int32), f_X3_leastByPlaces_b93 c_10 V k0 x1 x2 x3 x4 x6 x7 = some res → ∀ (H : Heap) (locs : List Loc) (ls : Array Slot), Hd G b0 V H → va_S (Ab b0) s.heap H locs → lv_has ls 8 [(0, .ref (b0 + k0)), (1, .int x1), (2, .int x2), (3, .int x3), (4, .int x4), (6, .int x6), (7, .int x7)] → W p l e (rm 1) s m args below meth c H locs 0 0 (MQ below (QI G b0 res V) args s 0 0 (Ab b0)) (F0 m 93 ls []) := by
    intro c_10 hc_10 k0 hk0 x1 x2 x3 x4 x6 x7 hr H locs ls hV hS hl
    unfold f_X3_leastByPlaces_b93 at hr
    refine lv_iload_n hx hb dX3_leastByPlaces_93 rfl (lv_at hl 2 rfl) ?_
    refine lv_iload hx hb dX3_leastByPlaces_94 (lv_at hl 5 rfl) ?_
    refine lv_iload hx hb dX3_leastByPlaces_96 (lv_at hl 5 rfl) ?_
    refine lv_ineg hx hb dX3_leastByPlaces_98 ?_
    refine lv_iand hx hb dX3_leastByPlaces_99 ?_
    refine lv_ior hx hb dX3_leastByPlaces_100 ?_
    refine lv_istore_n (lv' := [(2, .int (x2 ||| (x6 &&& (-x6)))), (0, .ref (b0 + k0)), (1, .int x1), (3, .int x3), (4, .int x4), (6, .int x6), (7, .int x7)]) hx hb dX3_leastByPlaces_101 rfl hl (by decide) rfl (fun ls hl => ?_)
    refine lv_iload_n hx hb dX3_leastByPlaces_102 rfl (lv_at hl 3 rfl) ?_
    refine lv_iload hx hb dX3_leastByPlaces_103 (lv_at hl 6 rfl) ?_
    refine lv_iadd hx hb dX3_leastByPlaces_105 ?_
    refine lv_istore_n (lv' := [(3, .int (x3 + x7)), (2, .int (x2 ||| (x6 &&& (-x6)))), (0, .ref (b0 + k0)), (1, .int x1), (4, .int x4), (6, .int x6), (7, .int x7)]) hx hb dX3_leastByPlaces_106 rfl hl (by decide) rfl (fun ls hl => ?_)
    refine lv_iinc (v := x4 + 1) (lv' := [(4, .int (x4 + 1)), (3, .int (x3 + x7)), (2, .int (x2 ||| (x6 &&& (-x6)))), (0, .ref (b0 + k0)), (1, .int x1), (6, .int x6), (7, .int x7)]) hx hb dX3_leastByPlaces_107 hl (k := 4) rfl rfl (by decide) rfl (fun ls hl => ?_)
    refine lv_goto (tgt := 10) hx hb dX3_leastByPlaces_110 (by decide) ?_
    exact hc_10 k0 hk0 x1 (x2 ||| (x6 &&& (-x6))) (x3 + x7) (x4 + 1) hr _ _ ls hV hS (lv_sub hl [3, 4, 2, 1, 0] rfl)
  have K_71 : ∀ (c_10 : St → Nat → Int32 → Int32 → Int32 → Int32 → Option (Int32)) (hc_10 : ∀ (k0 : Nat) (hk0 : kd k0 = 5) (x1 : Int32) (x2 : Int32) (x3 : Int32) (x4 : Int32), c_10 V k0 x1 x2 x3 x4 = some res → ∀ (H : Heap) (locs : List Loc) (ls : Array Slot), Hd G b0 V H → va_S (Ab b0) s.heap H locs → lv_has ls 8 [(0, .ref (b0 + k0)), (1, .int x1), (2, .int x2), (3, .int x3), (4, .int x4)] → W p l e (rm 1) s m args below meth c H locs 0 0 (MQ below (QI G b0 res V) args s 0 0 (Ab b0)) (F0 m 10 ls [])) (k0 : Nat) (hk0 : kd k0 = 5) (x1 : Int32) (x2 : Int32) (x3 : Int32) (x4 : Int32) (x5 : Int32) (x6 : Int32) (x7 : Int32), f_X3_leastByPlaces_b71 c_10 V k0 x1 x2 x3 x4 x5 x6 x7 = some res → ∀ (H : Heap) (locs : List Loc) (ls : Array Slot), Hd G b0 V H → va_S (Ab b0) s.heap H locs → lv_has ls 8 [(0, .ref (b0 + k0)), (1, .int x1), (2, .int x2), (3, .int x3), (4, .int x4), (5, .int x5), (6, .int x6), (7, .int x7)] → W p l e (rm 1) s m args below meth c H locs 0 0 (MQ below (QI G b0 res V) args s 0 0 (Ab b0)) (F0 m 71 ls []) := by
    intro c_10 hc_10 k0 hk0 x1 x2 x3 x4 x5 x6 x7 hr H locs ls hV hS hl
    unfold f_X3_leastByPlaces_b71 at hr
    refine lv_iload hx hb dX3_leastByPlaces_71 (lv_at hl 6 rfl) ?_
    refine lv_if_ne (tgt := 93) hx hb dX3_leastByPlaces_73 (by decide) (fun b_1 => ?_) (fun b_1 => ?_)
    · have hr := ie b_1 hr
      exact K_93 c_10 hc_10 k0 hk0 x1 x2 x3 x4 x6 x7 hr _ _ ls hV hS (lv_sub hl [0, 1, 2, 3, 4, 6, 7] rfl)
    · have hr := it b_1 hr
      refine lv_iload_n hx hb dX3_leastByPlaces_76 rfl (lv_at hl 2 rfl) ?_
      refine lv_iconst (v := 0) hx hb dX3_leastByPlaces_77 (by decide) ?_
      refine lv_aload_n hx hb dX3_leastByPlaces_78 rfl (lv_at hl 0 rfl) ?_
      refine g_X3_3 (k := k0) C hV hk0 q_159 dX3_leastByPlaces_79 ?_
      obtain ⟨q2, e2, hr⟩ := ob hr
      refine cal_i (run_SN (As := [.int x2, .int 0, .int (V k0 3)]) (rest := []) C hV hS (c_X9_beside l G b0 V x2 0 (V k0 3) q2 e2) q_519 q_520 q_93 q_521 dk_X9_beside (rm_ok (by decide) (by decide)) hl.1 rfl (Nat.le_of_ble_eq_true rfl) dX3_leastByPlaces_82 ⟨Nat.zero_le _, Nat.zero_le _⟩) hS (fun H locs hV hS => ?_)
      refine lv_iload hx hb dX3_leastByPlaces_85 (lv_at hl 5 rfl) ?_
      refine lv_iand hx hb dX3_leastByPlaces_87 ?_
      refine lv_istore (lv' := [(6, .int (q2 &&& x5)), (0, .ref (b0 + k0)), (1, .int x1), (2, .int x2), (3, .int x3), (4, .int x4), (5, .int x5), (7, .int x7)]) hx hb dX3_leastByPlaces_88 hl (by decide) rfl (fun ls hl => ?_)
      refine lv_iconst (v := 2) hx hb dX3_leastByPlaces_90 (by decide) ?_
      refine lv_istore (lv' := [(7, .int 2), (6, .int (q2 &&& x5)), (0, .ref (b0 + k0)), (1, .int x1), (2, .int x2), (3, .int x3), (4, .int x4), (5, .int x5)]) hx hb dX3_leastByPlaces_91 hl (by decide) rfl (fun ls hl => ?_)
      exact K_93 c_10 hc_10 k0 hk0 x1 x2 x3 x4 (q2 &&& x5) 2 hr _ _ ls hV hS (lv_sub hl [2, 3, 4, 5, 6, 1, 0] rfl)
  have K_10 : ∀ (n : Nat) (k0 : Nat) (hk0 : kd k0 = 5) (x1 : Int32) (x2 : Int32) (x3 : Int32) (x4 : Int32), f_X3_leastByPlaces_b10 n V k0 x1 x2 x3 x4 = some res → ∀ (H : Heap) (locs : List Loc) (ls : Array Slot), Hd G b0 V H → va_S (Ab b0) s.heap H locs → lv_has ls 8 [(0, .ref (b0 + k0)), (1, .int x1), (2, .int x2), (3, .int x3), (4, .int x4)] → W p l e (rm 1) s m args below meth c H locs 0 0 (MQ below (QI G b0 res V) args s 0 0 (Ab b0)) (F0 m 10 ls []) := by
    intro  n
    induction n with
    | zero =>
      intro k0 hk0 x1 x2 x3 x4 hr
      rw [f_X3_leastByPlaces_b10] at hr
      cases hr
    | succ n ih =>
      intro k0 hk0 x1 x2 x3 x4 hr H locs ls hV hS hl
      rw [f_X3_leastByPlaces_b10] at hr
      refine lv_iload hx hb dX3_leastByPlaces_10 (lv_at hl 4 rfl) ?_
      refine lv_bipush (v := 24) hx hb dX3_leastByPlaces_12 (by decide) ?_
      refine lv_icmp_ge (tgt := 113) hx hb dX3_leastByPlaces_14 (by decide) (fun b_3 => ?_) (fun b_3 => ?_)
      · have hr := it b_3 hr
        refine lv_iload_n hx hb dX3_leastByPlaces_113 rfl (lv_at hl 3 rfl) ?_
        exact fin_i C hV hS (Option.some.inj hr) dX3_leastByPlaces_114
      · have hr := ie b_3 hr
        refine lv_iload_n hx hb dX3_leastByPlaces_17 rfl (lv_at hl 2 rfl) ?_
        refine lv_iload_n hx hb dX3_leastByPlaces_18 rfl (lv_at hl 1 rfl) ?_
        refine lv_icmp_eq (tgt := 113) hx hb dX3_leastByPlaces_19 (by decide) (fun b_4 => ?_) (fun b_4 => ?_)
        · have hr := it b_4 hr
          refine lv_iload_n hx hb dX3_leastByPlaces_113 rfl (lv_at hl 3 rfl) ?_
          exact fin_i C hV hS (Option.some.inj hr) dX3_leastByPlaces_114
        · have hr := ie b_4 hr
          refine lv_iload_n hx hb dX3_leastByPlaces_22 rfl (lv_at hl 1 rfl) ?_
          refine lv_iload_n hx hb dX3_leastByPlaces_23 rfl (lv_at hl 2 rfl) ?_
          refine lv_iconst (v := (-1)) hx hb dX3_leastByPlaces_24 (by decide) ?_
          refine lv_ixor hx hb dX3_leastByPlaces_25 ?_
          refine lv_iand hx hb dX3_leastByPlaces_26 ?_
          refine lv_istore (lv' := [(5, .int (x1 &&& (x2 ^^^ (-1)))), (0, .ref (b0 + k0)), (1, .int x1), (2, .int x2), (3, .int x3), (4, .int x4)]) hx hb dX3_leastByPlaces_27 hl (by decide) rfl (fun ls hl => ?_)
          refine lv_iload_n hx hb dX3_leastByPlaces_29 rfl (lv_at hl 3 rfl) ?_
          refine lv_aload_n hx hb dX3_leastByPlaces_30 rfl (lv_at hl 1 rfl) ?_
          obtain ⟨q5, e5, hr⟩ := ob hr
          refine cal_i (run_V (As := []) (rest := [.int x2]) C hV hS (c_X3_wholeAcross l G b0 V k0 hk0 q5 e5) (rcv hK hV (kd_lt hk0 (by decide)) (cel_5 hk0) rfl) q_509 q_511 q_5 q_95 q_512 dk_X3_wholeAcross (rm_ok (by decide) (by decide)) hl.1 rfl (Nat.le_of_ble_eq_true rfl) dX3_leastByPlaces_31 ⟨Nat.zero_le _, Nat.zero_le _⟩) hS (fun H locs hV hS => ?_)
          refine lv_aload_n hx hb dX3_leastByPlaces_34 rfl (lv_at hl 1 rfl) ?_
          obtain ⟨q6, e6, hr⟩ := ob hr
          refine cal_i (run_V (As := []) (rest := [.int q5, .int x2]) C hV hS (c_X3_wholeDown l G b0 V k0 hk0 q6 e6) (rcv hK hV (kd_lt hk0 (by decide)) (cel_5 hk0) rfl) q_514 q_516 q_6 q_95 q_517 dk_X3_wholeDown (rm_ok (by decide) (by decide)) hl.1 rfl (Nat.le_of_ble_eq_true rfl) dX3_leastByPlaces_35 ⟨Nat.zero_le _, Nat.zero_le _⟩) hS (fun H locs hV hS => ?_)
          obtain ⟨q7, e7, hr⟩ := ob hr
          refine cal_i (run_SN (As := [.int x2, .int q5, .int q6]) (rest := []) C hV hS (c_X9_beside l G b0 V x2 q5 q6 q7 e7) q_519 q_520 q_93 q_521 dk_X9_beside (rm_ok (by decide) (by decide)) hl.1 rfl (Nat.le_of_ble_eq_true rfl) dX3_leastByPlaces_38 ⟨Nat.zero_le _, Nat.zero_le _⟩) hS (fun H locs hV hS => ?_)
          refine lv_iload hx hb dX3_leastByPlaces_41 (lv_at hl 0 rfl) ?_
          refine lv_iand hx hb dX3_leastByPlaces_43 ?_
          refine lv_istore (lv' := [(6, .int (q7 &&& (x1 &&& (x2 ^^^ (-1))))), (5, .int (x1 &&& (x2 ^^^ (-1)))), (0, .ref (b0 + k0)), (1, .int x1), (2, .int x2), (3, .int x3), (4, .int x4)]) hx hb dX3_leastByPlaces_44 hl (by decide) rfl (fun ls hl => ?_)
          refine lv_iconst (v := 0) hx hb dX3_leastByPlaces_46 (by decide) ?_
          refine lv_istore (lv' := [(7, .int 0), (6, .int (q7 &&& (x1 &&& (x2 ^^^ (-1))))), (5, .int (x1 &&& (x2 ^^^ (-1)))), (0, .ref (b0 + k0)), (1, .int x1), (2, .int x2), (3, .int x3), (4, .int x4)]) hx hb dX3_leastByPlaces_47 hl (by decide) rfl (fun ls hl => ?_)
          refine lv_iload hx hb dX3_leastByPlaces_49 (lv_at hl 1 rfl) ?_
          refine lv_if_ne (tgt := 71) hx hb dX3_leastByPlaces_51 (by decide) (fun b_8 => ?_) (fun b_8 => ?_)
          · have hr := ie b_8 hr
            exact K_71 (fun V k0 x1 x2 x3 x4 => f_X3_leastByPlaces_b10 n V k0 x1 x2 x3 x4) (fun k0 hk0 x1 x2 x3 x4 hr => ih k0 hk0 x1 x2 x3 x4 hr) k0 hk0 x1 x2 x3 x4 (x1 &&& (x2 ^^^ (-1))) (q7 &&& (x1 &&& (x2 ^^^ (-1)))) 0 hr _ _ ls hV hS (lv_sub hl [3, 4, 5, 6, 7, 2, 1, 0] rfl)
          · have hr := it b_8 hr
            refine lv_iload_n hx hb dX3_leastByPlaces_54 rfl (lv_at hl 5 rfl) ?_
            refine lv_aload_n hx hb dX3_leastByPlaces_55 rfl (lv_at hl 3 rfl) ?_
            refine g_X3_2 (k := k0) C hV hk0 q_158 dX3_leastByPlaces_56 ?_
            refine lv_iconst (v := 0) hx hb dX3_leastByPlaces_59 (by decide) ?_
            obtain ⟨q9, e9, hr⟩ := ob hr
            refine cal_i (run_SN (As := [.int x2, .int (V k0 2), .int 0]) (rest := []) C hV hS (c_X9_beside l G b0 V x2 (V k0 2) 0 q9 e9) q_519 q_520 q_93 q_521 dk_X9_beside (rm_ok (by decide) (by decide)) hl.1 rfl (Nat.le_of_ble_eq_true rfl) dX3_leastByPlaces_60 ⟨Nat.zero_le _, Nat.zero_le _⟩) hS (fun H locs hV hS => ?_)
            refine lv_iload hx hb dX3_leastByPlaces_63 (lv_at hl 2 rfl) ?_
            refine lv_iand hx hb dX3_leastByPlaces_65 ?_
            refine lv_istore (lv' := [(6, .int (q9 &&& (x1 &&& (x2 ^^^ (-1))))), (7, .int 0), (5, .int (x1 &&& (x2 ^^^ (-1)))), (0, .ref (b0 + k0)), (1, .int x1), (2, .int x2), (3, .int x3), (4, .int x4)]) hx hb dX3_leastByPlaces_66 hl (by decide) rfl (fun ls hl => ?_)
            refine lv_iconst (v := 1) hx hb dX3_leastByPlaces_68 (by decide) ?_
            refine lv_istore (lv' := [(7, .int 1), (6, .int (q9 &&& (x1 &&& (x2 ^^^ (-1))))), (5, .int (x1 &&& (x2 ^^^ (-1)))), (0, .ref (b0 + k0)), (1, .int x1), (2, .int x2), (3, .int x3), (4, .int x4)]) hx hb dX3_leastByPlaces_69 hl (by decide) rfl (fun ls hl => ?_)
            exact K_71 (fun V k0 x1 x2 x3 x4 => f_X3_leastByPlaces_b10 n V k0 x1 x2 x3 x4) (fun k0 hk0 x1 x2 x3 x4 hr => ih k0 hk0 x1 x2 x3 x4 hr) k0 hk0 x1 x2 x3 x4 (x1 &&& (x2 ^^^ (-1))) (q9 &&& (x1 &&& (x2 ^^^ (-1)))) 1 hr _ _ ls hV hS (lv_sub hl [3, 4, 5, 6, 7, 2, 1, 0] rfl)
  unfold f_X3_leastByPlaces at hr
  refine lv_iload_n hx hb dX3_leastByPlaces_0 rfl (lv_at hl 1 rfl) ?_
  refine lv_iload_n hx hb dX3_leastByPlaces_1 rfl (lv_at hl 1 rfl) ?_
  refine lv_ineg hx hb dX3_leastByPlaces_2 ?_
  refine lv_iand hx hb dX3_leastByPlaces_3 ?_
  refine lv_istore_n (lv' := [(2, .int (x1 &&& (-x1))), (0, .ref (b0 + k0)), (1, .int x1)]) hx hb dX3_leastByPlaces_4 rfl hl (by decide) rfl (fun ls hl => ?_)
  refine lv_iconst (v := 0) hx hb dX3_leastByPlaces_5 (by decide) ?_
  refine lv_istore_n (lv' := [(3, .int 0), (2, .int (x1 &&& (-x1))), (0, .ref (b0 + k0)), (1, .int x1)]) hx hb dX3_leastByPlaces_6 rfl hl (by decide) rfl (fun ls hl => ?_)
  refine lv_iconst (v := 0) hx hb dX3_leastByPlaces_7 (by decide) ?_
  refine lv_istore (lv' := [(4, .int 0), (3, .int 0), (2, .int (x1 &&& (-x1))), (0, .ref (b0 + k0)), (1, .int x1)]) hx hb dX3_leastByPlaces_8 hl (by decide) rfl (fun ls hl => ?_)
  exact K_10 500 k0 hk0 x1 (x1 &&& (-x1)) 0 0 hr _ _ ls hV hS (lv_sub hl [3, 4, 2, 1, 0] rfl)
set_option maxHeartbeats 4000000 in
set_option maxRecDepth 100000 in
theorem c_X3_writeLine (l : Launch) (G : LG) (b0 : Nat) (V : St) (k0 : Nat) (hk0 : kd k0 = 5) (x1 : Int32) (res : St) (hr : f_X3_writeLine V k0 x1 = some res) : Met l yX3_writeLine (wy yX3_writeLine cX3_writeLine 6 none) (rm 3) (va_Pc [.ref (b0 + k0), .int x1, .ref (b0 + 205)] (Iv G b0 V)) (QV G b0 res) 0 0 (Ab b0) := by
  refine mk_m (by decide +kernel) (Nat.le_of_ble_eq_true rfl) ?_
  intro p e s m below meth c C hV hS ls hl
  obtain ⟨args, hargs⟩ : ∃ z, z = ([.ref (b0 + k0), .int x1, .ref (b0 + 205)] : List Value).toArray := ⟨_, rfl⟩
  rw [← hargs] at C ⊢
  obtain ⟨hx, hb, hrt, hml, hown, hts, hlocks, hK, hSv⟩ := id C
  have hl : lv_has ls 6 [(0, .ref (b0 + k0)), (1, .int x1), (2, .ref (b0 + 205))] := hl
  have K_68 : ∀ (c_2 : St → Nat → Int32 → Int32 → Option (St)) (hc_2 : ∀ (V : St) (k0 : Nat) (hk0 : kd k0 = 5) (x1 : Int32) (x3 : Int32), c_2 V k0 x1 x3 = some res → ∀ (H : Heap) (locs : List Loc) (ls : Array Slot), Hd G b0 V H → va_S (Ab b0) s.heap H locs → lv_has ls 6 [(0, .ref (b0 + k0)), (1, .int x1), (2, .ref (b0 + 205)), (3, .int x3)] → W p l e (rm 3) s m args below meth c H locs 0 0 (MQ below (QV G b0 res) args s 0 0 (Ab b0)) (F0 m 2 ls [])) (V : St) (k0 : Nat) (hk0 : kd k0 = 5) (x1 : Int32) (x3 : Int32) (y0 : Int32), f_X3_writeLine_b68 c_2 V k0 x1 x3 y0 = some res → ∀ (H : Heap) (locs : List Loc) (ls : Array Slot), Hd G b0 V H → va_S (Ab b0) s.heap H locs → lv_has ls 6 [(0, .ref (b0 + k0)), (1, .int x1), (2, .ref (b0 + 205)), (3, .int x3)] → W p l e (rm 3) s m args below meth c H locs 0 0 (MQ below (QV G b0 res) args s 0 0 (Ab b0)) (F0 m 68 ls [.int y0, .ref (b0 + 205)]) := by
    intro c_2 hc_2 V k0 hk0 x1 x3 y0 hr H locs ls hV hS hl
    unfold f_X3_writeLine_b68 at hr
    obtain ⟨q1, e1, hr⟩ := ob hr
    refine cal_v (run_VN (As := [.int y0]) (rest := []) C hV hS (c_X2_append l G b0 V y0 q1 e1) (rcv hK hV (kd_lt z_205 (by decide)) (cel_17 z_205) rfl) q_1435 q_1324 q_72 q_101 q_1325 dk_X2_append (rm_ok (by decide) (by decide)) hl.1 rfl (Nat.le_of_ble_eq_true rfl) dX3_writeLine_68 ⟨Nat.zero_le _, Nat.zero_le _⟩) hS (fun H locs hV hS => ?_)
    refine lv_iinc (v := x3 + 1) (lv' := [(3, .int (x3 + 1)), (0, .ref (b0 + k0)), (1, .int x1), (2, .ref (b0 + 205))]) hx hb dX3_writeLine_71 hl (k := 3) rfl rfl (by decide) rfl (fun ls hl => ?_)
    refine lv_goto (tgt := 2) hx hb dX3_writeLine_74 (by decide) ?_
    exact hc_2 _ k0 hk0 x1 (x3 + 1) hr _ _ ls hV hS (lv_sub hl [1, 2, 3, 0] rfl)
  have K_44 : ∀ (c_2 : St → Nat → Int32 → Int32 → Option (St)) (hc_2 : ∀ (V : St) (k0 : Nat) (hk0 : kd k0 = 5) (x1 : Int32) (x3 : Int32), c_2 V k0 x1 x3 = some res → ∀ (H : Heap) (locs : List Loc) (ls : Array Slot), Hd G b0 V H → va_S (Ab b0) s.heap H locs → lv_has ls 6 [(0, .ref (b0 + k0)), (1, .int x1), (2, .ref (b0 + 205)), (3, .int x3)] → W p l e (rm 3) s m args below meth c H locs 0 0 (MQ below (QV G b0 res) args s 0 0 (Ab b0)) (F0 m 2 ls [])) (V : St) (k0 : Nat) (hk0 : kd k0 = 5) (x1 : Int32) (x3 : Int32) (x4 : Int32), f_X3_writeLine_b44 c_2 V k0 x1 x3 x4 = some res → ∀ (H : Heap) (locs : List Loc) (ls : Array Slot), Hd G b0 V H → va_S (Ab b0) s.heap H locs → lv_has ls 6 [(0, .ref (b0 + k0)), (1, .int x1), (2, .ref (b0 + 205)), (3, .int x3), (4, .int x4)] → W p l e (rm 3) s m args below meth c H locs 0 0 (MQ below (QV G b0 res) args s 0 0 (Ab b0)) (F0 m 44 ls []) := by
    intro c_2 hc_2 V k0 hk0 x1 x3 x4 hr H locs ls hV hS hl
    unfold f_X3_writeLine_b44 at hr
    refine lv_aload_n hx hb dX3_writeLine_44 rfl (lv_at hl 0 rfl) ?_
    refine lv_iload hx hb dX3_writeLine_45 (lv_at hl 4 rfl) ?_
    obtain ⟨q2, e2, hr⟩ := ob hr
    refine cal_i (run_V (As := [.int x4]) (rest := []) C hV hS (c_X3_kindAt l G b0 V k0 hk0 x4 q2 e2) (rcv hK hV (kd_lt hk0 (by decide)) (cel_5 hk0) rfl) q_1436 q_621 q_20 q_95 q_622 dk_X3_kindAt (rm_ok (by decide) (by decide)) hl.1 rfl (Nat.le_of_ble_eq_true rfl) dX3_writeLine_47 ⟨Nat.zero_le _, Nat.zero_le _⟩) hS (fun H locs hV hS => ?_)
    refine lv_istore (lv' := [(5, .int q2), (0, .ref (b0 + k0)), (1, .int x1), (2, .ref (b0 + 205)), (3, .int x3), (4, .int x4)]) hx hb dX3_writeLine_50 hl (by decide) rfl (fun ls hl => ?_)
    refine lv_aload_n hx hb dX3_writeLine_52 rfl (lv_at hl 3 rfl) ?_
    refine lv_iload hx hb dX3_writeLine_53 (lv_at hl 0 rfl) ?_
    refine lv_if_ne (tgt := 63) hx hb dX3_writeLine_55 (by decide) (fun b_3 => ?_) (fun b_3 => ?_)
    · have hr := ie b_3 hr
      refine lv_iload hx hb dX3_writeLine_63 (lv_at hl 0 rfl) ?_
      obtain ⟨q4, e4, hr⟩ := ob hr
      refine cal_i (run_SN (As := [.int q2]) (rest := [.ref (b0 + 205)]) C hV hS (c_X9_letterOf l G b0 V q2 q4 e4) q_1437 q_1320 q_93 q_1321 dk_X9_letterOf (rm_ok (by decide) (by decide)) hl.1 rfl (Nat.le_of_ble_eq_true rfl) dX3_writeLine_65 ⟨Nat.zero_le _, Nat.zero_le _⟩) hS (fun H locs hV hS => ?_)
      exact K_68 c_2 hc_2 _ k0 hk0 x1 x3 q4 hr _ _ ls hV hS (lv_sub hl [1, 2, 3, 4] rfl)
    · have hr := it b_3 hr
      refine lv_bipush (v := 46) hx hb dX3_writeLine_58 (by decide) ?_
      refine lv_goto (tgt := 68) hx hb dX3_writeLine_60 (by decide) ?_
      exact K_68 c_2 hc_2 _ k0 hk0 x1 x3 46 hr _ _ ls hV hS (lv_sub hl [1, 2, 3, 4] rfl)
  have K_41 : ∀ (c_2 : St → Nat → Int32 → Int32 → Option (St)) (hc_2 : ∀ (V : St) (k0 : Nat) (hk0 : kd k0 = 5) (x1 : Int32) (x3 : Int32), c_2 V k0 x1 x3 = some res → ∀ (H : Heap) (locs : List Loc) (ls : Array Slot), Hd G b0 V H → va_S (Ab b0) s.heap H locs → lv_has ls 6 [(0, .ref (b0 + k0)), (1, .int x1), (2, .ref (b0 + 205)), (3, .int x3)] → W p l e (rm 3) s m args below meth c H locs 0 0 (MQ below (QV G b0 res) args s 0 0 (Ab b0)) (F0 m 2 ls [])) (V : St) (k0 : Nat) (hk0 : kd k0 = 5) (x1 : Int32) (x3 : Int32) (x4 : Int32) (y0 : Int32), f_X3_writeLine_b41 c_2 V k0 x1 x3 x4 y0 = some res → ∀ (H : Heap) (locs : List Loc) (ls : Array Slot), Hd G b0 V H → va_S (Ab b0) s.heap H locs → lv_has ls 6 [(0, .ref (b0 + k0)), (1, .int x1), (2, .ref (b0 + 205)), (3, .int x3), (4, .int x4)] → W p l e (rm 3) s m args below meth c H locs 0 0 (MQ below (QV G b0 res) args s 0 0 (Ab b0)) (F0 m 41 ls [.int y0, .ref (b0 + 205)]) := by
    intro c_2 hc_2 V k0 hk0 x1 x3 x4 y0 hr H locs ls hV hS hl
    unfold f_X3_writeLine_b41 at hr
    obtain ⟨q5, e5, hr⟩ := ob hr
    refine cal_v (run_VN (As := [.int y0]) (rest := []) C hV hS (c_X2_append l G b0 V y0 q5 e5) (rcv hK hV (kd_lt z_205 (by decide)) (cel_17 z_205) rfl) q_1435 q_1324 q_72 q_101 q_1325 dk_X2_append (rm_ok (by decide) (by decide)) hl.1 rfl (Nat.le_of_ble_eq_true rfl) dX3_writeLine_41 ⟨Nat.zero_le _, Nat.zero_le _⟩) hS (fun H locs hV hS => ?_)
    exact K_44 c_2 hc_2 _ k0 hk0 x1 x3 x4 hr _ _ ls hV hS (lv_sub hl [0, 1, 2, 3, 4] rfl)
  have K_2 : ∀ (n : Nat) (V : St) (k0 : Nat) (hk0 : kd k0 = 5) (x1 : Int32) (x3 : Int32), f_X3_writeLine_b2 n V k0 x1 x3 = some res → ∀ (H : Heap) (locs : List Loc) (ls : Array Slot), Hd G b0 V H → va_S (Ab b0) s.heap H locs → lv_has ls 6 [(0, .ref (b0 + k0)), (1, .int x1), (2, .ref (b0 + 205)), (3, .int x3)] → W p l e (rm 3) s m args below meth c H locs 0 0 (MQ below (QV G b0 res) args s 0 0 (Ab b0)) (F0 m 2 ls []) := by
    intro  n
    induction n with
    | zero =>
      intro V k0 hk0 x1 x3 hr
      rw [f_X3_writeLine_b2] at hr
      cases hr
    | succ n ih =>
      intro V k0 hk0 x1 x3 hr H locs ls hV hS hl
      rw [f_X3_writeLine_b2] at hr
      refine lv_iload_n hx hb dX3_writeLine_2 rfl (lv_at hl 3 rfl) ?_
      refine lv_bipush (v := 6) hx hb dX3_writeLine_3 (by decide) ?_
      refine lv_icmp_ge (tgt := 77) hx hb dX3_writeLine_5 (by decide) (fun b_6 => ?_) (fun b_6 => ?_)
      · have hr := it b_6 hr
        exact fin_v C hV hS (Option.some.inj hr) dX3_writeLine_77
      · have hr := ie b_6 hr
        refine lv_iload_n hx hb dX3_writeLine_8 rfl (lv_at hl 1 rfl) ?_
        refine lv_bipush (v := 6) hx hb dX3_writeLine_9 (by decide) ?_
        refine lv_imul hx hb dX3_writeLine_11 ?_
        refine lv_iload_n hx hb dX3_writeLine_12 rfl (lv_at hl 3 rfl) ?_
        refine lv_iadd hx hb dX3_writeLine_13 ?_
        refine lv_istore (lv' := [(4, .int ((x1 * 6) + x3)), (0, .ref (b0 + k0)), (1, .int x1), (2, .ref (b0 + 205)), (3, .int x3)]) hx hb dX3_writeLine_14 hl (by decide) rfl (fun ls hl => ?_)
        refine lv_iload_n hx hb dX3_writeLine_16 rfl (lv_at hl 4 rfl) ?_
        refine lv_if_le (tgt := 44) hx hb dX3_writeLine_17 (by decide) (fun b_7 => ?_) (fun b_7 => ?_)
        · have hr := it b_7 hr
          exact K_44 (fun V k0 x1 x3 => f_X3_writeLine_b2 n V k0 x1 x3) (fun V k0 hk0 x1 x3 hr => ih V k0 hk0 x1 x3 hr) _ k0 hk0 x1 x3 ((x1 * 6) + x3) hr _ _ ls hV hS (lv_sub hl [1, 2, 3, 4, 0] rfl)
        · have hr := ie b_7 hr
          refine lv_aload_n hx hb dX3_writeLine_20 rfl (lv_at hl 3 rfl) ?_
          refine lv_aload_n hx hb dX3_writeLine_21 rfl (lv_at hl 1 rfl) ?_
          refine lv_iload hx hb dX3_writeLine_22 (lv_at hl 0 rfl) ?_
          refine lv_iconst (v := 1) hx hb dX3_writeLine_24 (by decide) ?_
          refine lv_isub hx hb dX3_writeLine_25 ?_
          refine lv_iload hx hb dX3_writeLine_26 (lv_at hl 0 rfl) ?_
          obtain ⟨q8, e8, hr⟩ := ob hr
          refine cal_i (run_V (As := [.int (((x1 * 6) + x3) - 1), .int ((x1 * 6) + x3)]) (rest := [.ref (b0 + 205)]) C hV hS (c_X3_isTornBetween l G b0 V k0 hk0 (((x1 * 6) + x3) - 1) ((x1 * 6) + x3) q8 e8) (rcv hK hV (kd_lt hk0 (by decide)) (cel_5 hk0) rfl) q_1395 q_712 q_32 q_95 q_713 dk_X3_isTornBetween (rm_ok (by decide) (by decide)) hl.1 rfl (Nat.le_of_ble_eq_true rfl) dX3_writeLine_28 ⟨Nat.zero_le _, Nat.zero_le _⟩) hS (fun H locs hV hS => ?_)
          refine lv_if_eq (tgt := 39) hx hb dX3_writeLine_31 (by decide) (fun b_9 => ?_) (fun b_9 => ?_)
          · have hr := it b_9 hr
            refine lv_bipush (v := 45) hx hb dX3_writeLine_39 (by decide) ?_
            exact K_41 (fun V k0 x1 x3 => f_X3_writeLine_b2 n V k0 x1 x3) (fun V k0 hk0 x1 x3 hr => ih V k0 hk0 x1 x3 hr) _ k0 hk0 x1 x3 ((x1 * 6) + x3) 45 hr _ _ ls hV hS (lv_sub hl [1, 2, 3, 4, 0] rfl)
          · have hr := ie b_9 hr
            refine lv_bipush (v := 47) hx hb dX3_writeLine_34 (by decide) ?_
            refine lv_goto (tgt := 41) hx hb dX3_writeLine_36 (by decide) ?_
            exact K_41 (fun V k0 x1 x3 => f_X3_writeLine_b2 n V k0 x1 x3) (fun V k0 hk0 x1 x3 hr => ih V k0 hk0 x1 x3 hr) _ k0 hk0 x1 x3 ((x1 * 6) + x3) 47 hr _ _ ls hV hS (lv_sub hl [1, 2, 3, 4, 0] rfl)
  unfold f_X3_writeLine at hr
  refine lv_iconst (v := 0) hx hb dX3_writeLine_0 (by decide) ?_
  refine lv_istore_n (lv' := [(3, .int 0), (0, .ref (b0 + k0)), (1, .int x1), (2, .ref (b0 + 205))]) hx hb dX3_writeLine_1 rfl hl (by decide) rfl (fun ls hl => ?_)
  exact K_2 500 _ k0 hk0 x1 0 hr _ _ ls hV hS (lv_sub hl [1, 2, 3, 0] rfl)
set_option maxHeartbeats 4000000 in
set_option maxRecDepth 100000 in
theorem c_X4_places (l : Launch) (G : LG) (b0 : Nat) (V : St) (k0 : Nat) (hk0 : kd k0 = 7) (res : Int32) (hr : f_X4_places V k0 = some res) : Met l yX4_places (wy yX4_places cX4_places 1 (some .int)) (rm 0) (va_Pc [.ref (b0 + k0)] (Iv G b0 V)) (QI G b0 res V) 0 0 (Ab b0) := by
  refine mk_m (by decide +kernel) (Nat.le_of_ble_eq_true rfl) ?_
  intro p e s m below meth c C hV hS ls hl
  obtain ⟨args, hargs⟩ : ∃ z, z = ([.ref (b0 + k0)] : List Value).toArray := ⟨_, rfl⟩
  rw [← hargs] at C ⊢
  obtain ⟨hx, hb, hrt, hml, hown, hts, hlocks, hK, hSv⟩ := id C
  have hl : lv_has ls 1 [(0, .ref (b0 + k0))] := hl
  unfold f_X4_places at hr
  refine lv_aload_n hx hb dX4_places_0 rfl (lv_at hl 0 rfl) ?_
  refine g_X4_1 (k := k0) C hV hk0 q_198 dX4_places_1 ?_
  refine lv_aload_n hx hb dX4_places_4 rfl (lv_at hl 0 rfl) ?_
  refine g_X4_2 (k := k0) C hV hk0 q_201 dX4_places_5 ?_
  refine lv_ior hx hb dX4_places_8 ?_
  exact fin_i C hV hS (Option.some.inj hr) dX4_places_9
set_option maxHeartbeats 4000000 in
set_option maxRecDepth 100000 in
theorem c_X4_isOf (l : Launch) (G : LG) (b0 : Nat) (V : St) (k0 : Nat) (hk0 : kd k0 = 7) (k1 : Nat) (hk1 : kd k1 = 5) (x2 : Int32) (res : Int32) (hr : f_X4_isOf V k0 k1 x2 = some res) : Met l yX4_isOf (wy yX4_isOf cX4_isOf 3 (some .boolean)) (rm 0) (va_Pc [.ref (b0 + k0), .ref (b0 + k1), .int x2] (Iv G b0 V)) (QI G b0 res V) 0 0 (Ab b0) := by
  refine mk_m (by decide +kernel) (Nat.le_of_ble_eq_true rfl) ?_
  intro p e s m below meth c C hV hS ls hl
  obtain ⟨args, hargs⟩ : ∃ z, z = ([.ref (b0 + k0), .ref (b0 + k1), .int x2] : List Value).toArray := ⟨_, rfl⟩
  rw [← hargs] at C ⊢
  obtain ⟨hx, hb, hrt, hml, hown, hts, hlocks, hK, hSv⟩ := id C
  have hl : lv_has ls 3 [(0, .ref (b0 + k0)), (1, .ref (b0 + k1)), (2, .int x2)] := hl
  unfold f_X4_isOf at hr
  refine lv_aload_n hx hb dX4_isOf_0 rfl (lv_at hl 1 rfl) ?_
  refine gn_X3_0 (k := k1) C hV hk1 q_151 dX4_isOf_1 ?_
  refine lv_iload_n hx hb dX4_isOf_4 rfl (lv_at hl 2 rfl) ?_
  refine lv_iand hx hb dX4_isOf_5 ?_
  refine lv_aload_n hx hb dX4_isOf_6 rfl (lv_at hl 0 rfl) ?_
  refine g_X4_1 (k := k0) C hV hk0 q_198 dX4_isOf_7 ?_
  refine lv_icmp_ne (tgt := 30) hx hb dX4_isOf_10 (by decide) (fun b_1 => ?_) (fun b_1 => ?_)
  · have hr := ie b_1 hr
    refine lv_iconst (v := 0) hx hb dX4_isOf_30 (by decide) ?_
    exact fin_z C hV hS (by decide) (Option.some.inj hr) dX4_isOf_31
  · have hr := it b_1 hr
    refine lv_aload_n hx hb dX4_isOf_13 rfl (lv_at hl 1 rfl) ?_
    refine gn_X3_1 (k := k1) C hV hk1 q_155 dX4_isOf_14 ?_
    refine lv_iload_n hx hb dX4_isOf_17 rfl (lv_at hl 2 rfl) ?_
    refine lv_iand hx hb dX4_isOf_18 ?_
    refine lv_aload_n hx hb dX4_isOf_19 rfl (lv_at hl 0 rfl) ?_
    refine g_X4_2 (k := k0) C hV hk0 q_201 dX4_isOf_20 ?_
    refine lv_icmp_ne (tgt := 30) hx hb dX4_isOf_23 (by decide) (fun b_2 => ?_) (fun b_2 => ?_)
    · have hr := ie b_2 hr
      refine lv_iconst (v := 0) hx hb dX4_isOf_30 (by decide) ?_
      exact fin_z C hV hS (by decide) (Option.some.inj hr) dX4_isOf_31
    · have hr := it b_2 hr
      refine lv_iconst (v := 1) hx hb dX4_isOf_26 (by decide) ?_
      refine lv_goto (tgt := 31) hx hb dX4_isOf_27 (by decide) ?_
      exact fin_z C hV hS (by decide) (Option.some.inj hr) dX4_isOf_31
set_option maxHeartbeats 4000000 in
set_option maxRecDepth 100000 in
theorem c_X6_keepAlone (l : Launch) (G : LG) (b0 : Nat) (V : St) (x1 : Int32) (x2 : Int32) (res : St) (hr : f_X6_keepAlone V x1 x2 = some res) : Met l yX6_keepAlone (wy yX6_keepAlone cX6_keepAlone 3 none) (rm 0) (va_Pc [.ref (b0 + 207), .int x1, .int x2] (Iv G b0 V)) (QV G b0 res) 0 0 (Ab b0) := by
  refine mk_m (by decide +kernel) (Nat.le_of_ble_eq_true rfl) ?_
  intro p e s m below meth c C hV hS ls hl
  obtain ⟨args, hargs⟩ : ∃ z, z = ([.ref (b0 + 207), .int x1, .int x2] : List Value).toArray := ⟨_, rfl⟩
  rw [← hargs] at C ⊢
  obtain ⟨hx, hb, hrt, hml, hown, hts, hlocks, hK, hSv⟩ := id C
  have hl : lv_has ls 3 [(0, .ref (b0 + 207)), (1, .int x1), (2, .int x2)] := hl
  unfold f_X6_keepAlone at hr
  refine lv_aload_n hx hb dX6_keepAlone_0 rfl (lv_at hl 0 rfl) ?_
  refine lv_iload_n hx hb dX6_keepAlone_1 rfl (lv_at hl 1 rfl) ?_
  refine p_X6_0 (x := x1) C hV hS q_326 dX6_keepAlone_2 (fun H locs hV hS => ?_)
  refine lv_aload_n hx hb dX6_keepAlone_5 rfl (lv_at hl 0 rfl) ?_
  refine lv_iload_n hx hb dX6_keepAlone_6 rfl (lv_at hl 2 rfl) ?_
  refine p_X6_1 (x := x2) C hV hS q_327 dX6_keepAlone_7 (fun H locs hV hS => ?_)
  refine lv_aload_n hx hb dX6_keepAlone_10 rfl (lv_at hl 0 rfl) ?_
  refine lv_iconst (v := 0) hx hb dX6_keepAlone_11 (by decide) ?_
  refine p_X6_2 (x := 0) C hV hS q_328 dX6_keepAlone_12 (fun H locs hV hS => ?_)
  refine lv_aload_n hx hb dX6_keepAlone_15 rfl (lv_at hl 0 rfl) ?_
  refine lv_iconst (v := 0) hx hb dX6_keepAlone_16 (by decide) ?_
  refine p_X6_3 (x := 0) C hV hS q_329 dX6_keepAlone_17 (fun H locs hV hS => ?_)
  exact fin_v C hV hS (Option.some.inj hr) dX6_keepAlone_20
set_option maxHeartbeats 4000000 in
set_option maxRecDepth 100000 in
theorem c_X6_keepOrder (l : Launch) (G : LG) (b0 : Nat) (V : St) (x1 : Int32) (x2 : Int32) (x3 : Int32) (res : St) (hr : f_X6_keepOrder V x1 x2 x3 = some res) : Met l yX6_keepOrder (wy yX6_keepOrder cX6_keepOrder 4 none) (rm 0) (va_Pc [.ref (b0 + 207), .int x1, .int x2, .int x3] (Iv G b0 V)) (QV G b0 res) 0 0 (Ab b0) := by
  refine mk_m (by decide +kernel) (Nat.le_of_ble_eq_true rfl) ?_
  intro p e s m below meth c C hV hS ls hl
  obtain ⟨args, hargs⟩ : ∃ z, z = ([.ref (b0 + 207), .int x1, .int x2, .int x3] : List Value).toArray := ⟨_, rfl⟩
  rw [← hargs] at C ⊢
  obtain ⟨hx, hb, hrt, hml, hown, hts, hlocks, hK, hSv⟩ := id C
  have hl : lv_has ls 4 [(0, .ref (b0 + 207)), (1, .int x1), (2, .int x2), (3, .int x3)] := hl
  unfold f_X6_keepOrder at hr
  refine lv_aload_n hx hb dX6_keepOrder_0 rfl (lv_at hl 0 rfl) ?_
  refine lv_bipush (v := 9) hx hb dX6_keepOrder_1 (by decide) ?_
  refine p_X6_0 (x := 9) C hV hS q_326 dX6_keepOrder_3 (fun H locs hV hS => ?_)
  refine lv_aload_n hx hb dX6_keepOrder_6 rfl (lv_at hl 0 rfl) ?_
  refine lv_iload_n hx hb dX6_keepOrder_7 rfl (lv_at hl 1 rfl) ?_
  refine p_X6_1 (x := x1) C hV hS q_327 dX6_keepOrder_8 (fun H locs hV hS => ?_)
  refine lv_aload_n hx hb dX6_keepOrder_11 rfl (lv_at hl 0 rfl) ?_
  refine lv_iload_n hx hb dX6_keepOrder_12 rfl (lv_at hl 2 rfl) ?_
  refine p_X6_2 (x := x2) C hV hS q_328 dX6_keepOrder_13 (fun H locs hV hS => ?_)
  refine lv_aload_n hx hb dX6_keepOrder_16 rfl (lv_at hl 0 rfl) ?_
  refine lv_iload_n hx hb dX6_keepOrder_17 rfl (lv_at hl 3 rfl) ?_
  refine p_X6_3 (x := x3) C hV hS q_329 dX6_keepOrder_18 (fun H locs hV hS => ?_)
  exact fin_v C hV hS (Option.some.inj hr) dX6_keepOrder_21
set_option maxHeartbeats 4000000 in
set_option maxRecDepth 100000 in
theorem c_X7_isFull (l : Launch) (G : LG) (b0 : Nat) (V : St) (res : Int32) (hr : f_X7_isFull V = some res) : Met l yX7_isFull (wy yX7_isFull cX7_isFull 1 (some .boolean)) (rm 0) (va_Pc [.ref (b0 + 192)] (Iv G b0 V)) (QI G b0 res V) 0 0 (Ab b0) := by
  refine mk_m (by decide +kernel) (Nat.le_of_ble_eq_true rfl) ?_
  intro p e s m below meth c C hV hS ls hl
  obtain ⟨args, hargs⟩ : ∃ z, z = ([.ref (b0 + 192)] : List Value).toArray := ⟨_, rfl⟩
  rw [← hargs] at C ⊢
  obtain ⟨hx, hb, hrt, hml, hown, hts, hlocks, hK, hSv⟩ := id C
  have hl : lv_has ls 1 [(0, .ref (b0 + 192))] := hl
  unfold f_X7_isFull at hr
  refine lv_aload_n hx hb dX7_isFull_0 rfl (lv_at hl 0 rfl) ?_
  refine g_X7_1 C hV q_285 dX7_isFull_1 ?_
  refine lv_bipush (v := 60) hx hb dX7_isFull_4 (by decide) ?_
  refine lv_icmp_lt (tgt := 13) hx hb dX7_isFull_6 (by decide) (fun b_1 => ?_) (fun b_1 => ?_)
  · have hr := it b_1 hr
    refine lv_iconst (v := 0) hx hb dX7_isFull_13 (by decide) ?_
    exact fin_z C hV hS (by decide) (Option.some.inj hr) dX7_isFull_14
  · have hr := ie b_1 hr
    refine lv_iconst (v := 1) hx hb dX7_isFull_9 (by decide) ?_
    refine lv_goto (tgt := 14) hx hb dX7_isFull_10 (by decide) ?_
    exact fin_z C hV hS (by decide) (Option.some.inj hr) dX7_isFull_14
set_option maxHeartbeats 4000000 in
set_option maxRecDepth 100000 in
theorem c_X7_append (l : Launch) (G : LG) (b0 : Nat) (V : St) (x1 : Int32) (res : St) (hr : f_X7_append V x1 = some res) : Met l yX7_append (wy yX7_append cX7_append 2 none) (rm 0) (va_Pc [.ref (b0 + 192), .int x1] (Iv G b0 V)) (QV G b0 res) 0 0 (Ab b0) := by
  refine mk_m (by decide +kernel) (Nat.le_of_ble_eq_true rfl) ?_
  intro p e s m below meth c C hV hS ls hl
  obtain ⟨args, hargs⟩ : ∃ z, z = ([.ref (b0 + 192), .int x1] : List Value).toArray := ⟨_, rfl⟩
  rw [← hargs] at C ⊢
  obtain ⟨hx, hb, hrt, hml, hown, hts, hlocks, hK, hSv⟩ := id C
  have hl : lv_has ls 2 [(0, .ref (b0 + 192)), (1, .int x1)] := hl
  unfold f_X7_append at hr
  refine lv_aload_n hx hb dX7_append_0 rfl (lv_at hl 0 rfl) ?_
  refine g_X7_1 C hV q_285 dX7_append_1 ?_
  refine lv_if_lt (tgt := 36) hx hb dX7_append_4 (by decide) (fun b_1 => ?_) (fun b_1 => ?_)
  · have hr := it b_1 hr
    exact fin_v C hV hS (Option.some.inj hr) dX7_append_36
  · have hr := ie b_1 hr
    refine lv_aload_n hx hb dX7_append_7 rfl (lv_at hl 0 rfl) ?_
    refine g_X7_1 C hV q_285 dX7_append_8 ?_
    refine lv_bipush (v := 60) hx hb dX7_append_11 (by decide) ?_
    refine lv_icmp_ge (tgt := 36) hx hb dX7_append_13 (by decide) (fun b_2 => ?_) (fun b_2 => ?_)
    · have hr := it b_2 hr
      exact fin_v C hV hS (Option.some.inj hr) dX7_append_36
    · have hr := ie b_2 hr
      refine lv_aload_n hx hb dX7_append_16 rfl (lv_at hl 0 rfl) ?_
      refine g_X7_0 C hV q_284 dX7_append_17 ?_
      refine lv_aload_n hx hb dX7_append_20 rfl (lv_at hl 0 rfl) ?_
      refine g_X7_1 C hV q_285 dX7_append_21 ?_
      refine lv_iload_n hx hb dX7_append_24 rfl (lv_at hl 1 rfl) ?_
      obtain ⟨j3, e3, hr⟩ := ob hr
      refine s_13 (k := 193) (i := (V 192 1)) (j := j3) (x := x1) C hV hS z_193 e3 dX7_append_25 (fun H locs hV hS => ?_)
      refine lv_aload_n hx hb dX7_append_26 rfl (lv_at hl 0 rfl) ?_
      refine lv_dup hx hb dX7_append_27 rfl ?_
      refine g_X7_1 C hV q_285 dX7_append_28 ?_
      refine lv_iconst (v := 1) hx hb dX7_append_31 (by decide) ?_
      refine lv_iadd hx hb dX7_append_32 ?_
      refine p_X7_1 (x := (((up V 193 j3 (vp_nar .char x1)) 192 1) + 1)) C hV hS q_285 dX7_append_33 (fun H locs hV hS => ?_)
      exact fin_v C hV hS (Option.some.inj hr) dX7_append_36
set_option maxHeartbeats 4000000 in
set_option maxRecDepth 100000 in
theorem c_X7_clear (l : Launch) (G : LG) (b0 : Nat) (V : St) (res : St) (hr : f_X7_clear V = some res) : Met l yX7_clear (wy yX7_clear cX7_clear 1 none) (rm 0) (va_Pc [.ref (b0 + 192)] (Iv G b0 V)) (QV G b0 res) 0 0 (Ab b0) := by
  refine mk_m (by decide +kernel) (Nat.le_of_ble_eq_true rfl) ?_
  intro p e s m below meth c C hV hS ls hl
  obtain ⟨args, hargs⟩ : ∃ z, z = ([.ref (b0 + 192)] : List Value).toArray := ⟨_, rfl⟩
  rw [← hargs] at C ⊢
  obtain ⟨hx, hb, hrt, hml, hown, hts, hlocks, hK, hSv⟩ := id C
  have hl : lv_has ls 1 [(0, .ref (b0 + 192))] := hl
  unfold f_X7_clear at hr
  refine lv_aload_n hx hb dX7_clear_0 rfl (lv_at hl 0 rfl) ?_
  refine lv_iconst (v := 0) hx hb dX7_clear_1 (by decide) ?_
  refine p_X7_1 (x := 0) C hV hS q_285 dX7_clear_2 (fun H locs hV hS => ?_)
  exact fin_v C hV hS (Option.some.inj hr) dX7_clear_5
set_option maxHeartbeats 4000000 in
set_option maxRecDepth 100000 in
theorem c_X7_wordAt (l : Launch) (G : LG) (b0 : Nat) (V : St) (x1 : Int32) (res : Int32) (hr : f_X7_wordAt V x1 = some res) : Met l yX7_wordAt (wy yX7_wordAt cX7_wordAt 2 (some .int)) (rm 0) (va_Pc [.ref (b0 + 192), .int x1] (Iv G b0 V)) (QI G b0 res V) 0 0 (Ab b0) := by
  refine mk_m (by decide +kernel) (Nat.le_of_ble_eq_true rfl) ?_
  intro p e s m below meth c C hV hS ls hl
  obtain ⟨args, hargs⟩ : ∃ z, z = ([.ref (b0 + 192), .int x1] : List Value).toArray := ⟨_, rfl⟩
  rw [← hargs] at C ⊢
  obtain ⟨hx, hb, hrt, hml, hown, hts, hlocks, hK, hSv⟩ := id C
  have hl : lv_has ls 2 [(0, .ref (b0 + 192)), (1, .int x1)] := hl
  unfold f_X7_wordAt at hr
  refine lv_iload_n hx hb dX7_wordAt_0 rfl (lv_at hl 1 rfl) ?_
  refine lv_if_lt (tgt := 19) hx hb dX7_wordAt_1 (by decide) (fun b_1 => ?_) (fun b_1 => ?_)
  · have hr := it b_1 hr
    refine lv_iconst (v := (-1)) hx hb dX7_wordAt_19 (by decide) ?_
    exact fin_i C hV hS (Option.some.inj hr) dX7_wordAt_20
  · have hr := ie b_1 hr
    refine lv_iload_n hx hb dX7_wordAt_4 rfl (lv_at hl 1 rfl) ?_
    refine lv_bipush (v := 9) hx hb dX7_wordAt_5 (by decide) ?_
    refine lv_icmp_ge (tgt := 19) hx hb dX7_wordAt_7 (by decide) (fun b_2 => ?_) (fun b_2 => ?_)
    · have hr := it b_2 hr
      refine lv_iconst (v := (-1)) hx hb dX7_wordAt_19 (by decide) ?_
      exact fin_i C hV hS (Option.some.inj hr) dX7_wordAt_20
    · have hr := ie b_2 hr
      refine lv_aload_n hx hb dX7_wordAt_10 rfl (lv_at hl 0 rfl) ?_
      refine g_X7_3 C hV q_288 dX7_wordAt_11 ?_
      refine lv_iload_n hx hb dX7_wordAt_14 rfl (lv_at hl 1 rfl) ?_
      obtain ⟨j3, e3, hr⟩ := ob hr
      refine a_14 (k := 194) (i := x1) (j := j3) C hV z_194 e3 dX7_wordAt_15 ?_
      refine lv_goto (tgt := 20) hx hb dX7_wordAt_16 (by decide) ?_
      exact fin_i C hV hS (Option.some.inj hr) dX7_wordAt_20
set_option maxHeartbeats 4000000 in
set_option maxRecDepth 100000 in
theorem c_X7_putWord (l : Launch) (G : LG) (b0 : Nat) (V : St) (x1 : Int32) (x2 : Int32) (res : St) (hr : f_X7_putWord V x1 x2 = some res) : Met l yX7_putWord (wy yX7_putWord cX7_putWord 3 none) (rm 0) (va_Pc [.ref (b0 + 192), .int x1, .int x2] (Iv G b0 V)) (QV G b0 res) 0 0 (Ab b0) := by
  refine mk_m (by decide +kernel) (Nat.le_of_ble_eq_true rfl) ?_
  intro p e s m below meth c C hV hS ls hl
  obtain ⟨args, hargs⟩ : ∃ z, z = ([.ref (b0 + 192), .int x1, .int x2] : List Value).toArray := ⟨_, rfl⟩
  rw [← hargs] at C ⊢
  obtain ⟨hx, hb, hrt, hml, hown, hts, hlocks, hK, hSv⟩ := id C
  have hl : lv_has ls 3 [(0, .ref (b0 + 192)), (1, .int x1), (2, .int x2)] := hl
  unfold f_X7_putWord at hr
  refine lv_iload_n hx hb dX7_putWord_0 rfl (lv_at hl 1 rfl) ?_
  refine lv_if_lt (tgt := 17) hx hb dX7_putWord_1 (by decide) (fun b_1 => ?_) (fun b_1 => ?_)
  · have hr := it b_1 hr
    exact fin_v C hV hS (Option.some.inj hr) dX7_putWord_17
  · have hr := ie b_1 hr
    refine lv_iload_n hx hb dX7_putWord_4 rfl (lv_at hl 1 rfl) ?_
    refine lv_bipush (v := 9) hx hb dX7_putWord_5 (by decide) ?_
    refine lv_icmp_ge (tgt := 17) hx hb dX7_putWord_7 (by decide) (fun b_2 => ?_) (fun b_2 => ?_)
    · have hr := it b_2 hr
      exact fin_v C hV hS (Option.some.inj hr) dX7_putWord_17
    · have hr := ie b_2 hr
      refine lv_aload_n hx hb dX7_putWord_10 rfl (lv_at hl 0 rfl) ?_
      refine g_X7_3 C hV q_288 dX7_putWord_11 ?_
      refine lv_iload_n hx hb dX7_putWord_14 rfl (lv_at hl 1 rfl) ?_
      refine lv_iload_n hx hb dX7_putWord_15 rfl (lv_at hl 2 rfl) ?_
      obtain ⟨j3, e3, hr⟩ := ob hr
      refine s_14 (k := 194) (i := x1) (j := j3) (x := x2) C hV hS z_194 e3 dX7_putWord_16 (fun H locs hV hS => ?_)
      exact fin_v C hV hS (Option.some.inj hr) dX7_putWord_17
set_option maxHeartbeats 4000000 in
set_option maxRecDepth 100000 in
theorem c_X7_numberAt (l : Launch) (G : LG) (b0 : Nat) (V : St) (x1 : Int32) (x2 : Int32) (res : Int32) (hr : f_X7_numberAt V x1 x2 = some res) : Met l yX7_numberAt (wy yX7_numberAt cX7_numberAt 3 (some .int)) (rm 0) (va_Pc [.ref (b0 + 192), .int x1, .int x2] (Iv G b0 V)) (QI G b0 res V) 0 0 (Ab b0) := by
  refine mk_m (by decide +kernel) (Nat.le_of_ble_eq_true rfl) ?_
  intro p e s m below meth c C hV hS ls hl
  obtain ⟨args, hargs⟩ : ∃ z, z = ([.ref (b0 + 192), .int x1, .int x2] : List Value).toArray := ⟨_, rfl⟩
  rw [← hargs] at C ⊢
  obtain ⟨hx, hb, hrt, hml, hown, hts, hlocks, hK, hSv⟩ := id C
  have hl : lv_has ls 3 [(0, .ref (b0 + 192)), (1, .int x1), (2, .int x2)] := hl
  unfold f_X7_numberAt at hr
  refine lv_iload_n hx hb dX7_numberAt_0 rfl (lv_at hl 1 rfl) ?_
  refine lv_if_lt (tgt := 19) hx hb dX7_numberAt_1 (by decide) (fun b_1 => ?_) (fun b_1 => ?_)
  · have hr := it b_1 hr
    refine lv_iconst (v := (-1)) hx hb dX7_numberAt_19 (by decide) ?_
    exact fin_i C hV hS (Option.some.inj hr) dX7_numberAt_20
  · have hr := ie b_1 hr
    refine lv_iload_n hx hb dX7_numberAt_4 rfl (lv_at hl 1 rfl) ?_
    refine lv_bipush (v := 9) hx hb dX7_numberAt_5 (by decide) ?_
    refine lv_icmp_ge (tgt := 19) hx hb dX7_numberAt_7 (by decide) (fun b_2 => ?_) (fun b_2 => ?_)
    · have hr := it b_2 hr
      refine lv_iconst (v := (-1)) hx hb dX7_numberAt_19 (by decide) ?_
      exact fin_i C hV hS (Option.some.inj hr) dX7_numberAt_20
    · have hr := ie b_2 hr
      refine lv_iload_n hx hb dX7_numberAt_10 rfl (lv_at hl 2 rfl) ?_
      refine lv_if_lt (tgt := 19) hx hb dX7_numberAt_11 (by decide) (fun b_3 => ?_) (fun b_3 => ?_)
      · have hr := it b_3 hr
        refine lv_iconst (v := (-1)) hx hb dX7_numberAt_19 (by decide) ?_
        exact fin_i C hV hS (Option.some.inj hr) dX7_numberAt_20
      · have hr := ie b_3 hr
        refine lv_iload_n hx hb dX7_numberAt_14 rfl (lv_at hl 2 rfl) ?_
        refine lv_iconst (v := 4) hx hb dX7_numberAt_15 (by decide) ?_
        refine lv_icmp_lt (tgt := 21) hx hb dX7_numberAt_16 (by decide) (fun b_4 => ?_) (fun b_4 => ?_)
        · have hr := it b_4 hr
          refine lv_aload_n hx hb dX7_numberAt_21 rfl (lv_at hl 0 rfl) ?_
          refine g_X7_4 C hV q_289 dX7_numberAt_22 ?_
          refine lv_iload_n hx hb dX7_numberAt_25 rfl (lv_at hl 1 rfl) ?_
          obtain ⟨j5, e5, hr⟩ := ob hr
          refine a_15 (k := 195) (i := x1) (j := j5) C hV z_195 e5 dX7_numberAt_26 ?_
          refine lv_iload_n hx hb dX7_numberAt_27 rfl (lv_at hl 2 rfl) ?_
          obtain ⟨j6, e6, hr⟩ := ob hr
          refine a_16 (k := (195 + 1 + j5)) (i := x2) (j := j6) C hV (kd_r z_195 (ix_in (i := x1) e5).2.2) e6 dX7_numberAt_28 ?_
          exact fin_i C hV hS (Option.some.inj hr) dX7_numberAt_29
        · have hr := ie b_4 hr
          refine lv_iconst (v := (-1)) hx hb dX7_numberAt_19 (by decide) ?_
          exact fin_i C hV hS (Option.some.inj hr) dX7_numberAt_20
set_option maxHeartbeats 4000000 in
set_option maxRecDepth 100000 in
theorem c_X7_putNumber (l : Launch) (G : LG) (b0 : Nat) (V : St) (x1 : Int32) (x2 : Int32) (x3 : Int32) (res : St) (hr : f_X7_putNumber V x1 x2 x3 = some res) : Met l yX7_putNumber (wy yX7_putNumber cX7_putNumber 4 none) (rm 0) (va_Pc [.ref (b0 + 192), .int x1, .int x2, .int x3] (Iv G b0 V)) (QV G b0 res) 0 0 (Ab b0) := by
  refine mk_m (by decide +kernel) (Nat.le_of_ble_eq_true rfl) ?_
  intro p e s m below meth c C hV hS ls hl
  obtain ⟨args, hargs⟩ : ∃ z, z = ([.ref (b0 + 192), .int x1, .int x2, .int x3] : List Value).toArray := ⟨_, rfl⟩
  rw [← hargs] at C ⊢
  obtain ⟨hx, hb, hrt, hml, hown, hts, hlocks, hK, hSv⟩ := id C
  have hl : lv_has ls 4 [(0, .ref (b0 + 192)), (1, .int x1), (2, .int x2), (3, .int x3)] := hl
  unfold f_X7_putNumber at hr
  refine lv_iload_n hx hb dX7_putNumber_0 rfl (lv_at hl 1 rfl) ?_
  refine lv_if_lt (tgt := 28) hx hb dX7_putNumber_1 (by decide) (fun b_1 => ?_) (fun b_1 => ?_)
  · have hr := it b_1 hr
    exact fin_v C hV hS (Option.some.inj hr) dX7_putNumber_28
  · have hr := ie b_1 hr
    refine lv_iload_n hx hb dX7_putNumber_4 rfl (lv_at hl 1 rfl) ?_
    refine lv_bipush (v := 9) hx hb dX7_putNumber_5 (by decide) ?_
    refine lv_icmp_ge (tgt := 28) hx hb dX7_putNumber_7 (by decide) (fun b_2 => ?_) (fun b_2 => ?_)
    · have hr := it b_2 hr
      exact fin_v C hV hS (Option.some.inj hr) dX7_putNumber_28
    · have hr := ie b_2 hr
      refine lv_iload_n hx hb dX7_putNumber_10 rfl (lv_at hl 2 rfl) ?_
      refine lv_if_lt (tgt := 28) hx hb dX7_putNumber_11 (by decide) (fun b_3 => ?_) (fun b_3 => ?_)
      · have hr := it b_3 hr
        exact fin_v C hV hS (Option.some.inj hr) dX7_putNumber_28
      · have hr := ie b_3 hr
        refine lv_iload_n hx hb dX7_putNumber_14 rfl (lv_at hl 2 rfl) ?_
        refine lv_iconst (v := 4) hx hb dX7_putNumber_15 (by decide) ?_
        refine lv_icmp_ge (tgt := 28) hx hb dX7_putNumber_16 (by decide) (fun b_4 => ?_) (fun b_4 => ?_)
        · have hr := it b_4 hr
          exact fin_v C hV hS (Option.some.inj hr) dX7_putNumber_28
        · have hr := ie b_4 hr
          refine lv_aload_n hx hb dX7_putNumber_19 rfl (lv_at hl 0 rfl) ?_
          refine g_X7_4 C hV q_289 dX7_putNumber_20 ?_
          refine lv_iload_n hx hb dX7_putNumber_23 rfl (lv_at hl 1 rfl) ?_
          obtain ⟨j5, e5, hr⟩ := ob hr
          refine a_15 (k := 195) (i := x1) (j := j5) C hV z_195 e5 dX7_putNumber_24 ?_
          refine lv_iload_n hx hb dX7_putNumber_25 rfl (lv_at hl 2 rfl) ?_
          refine lv_iload_n hx hb dX7_putNumber_26 rfl (lv_at hl 3 rfl) ?_
          obtain ⟨j6, e6, hr⟩ := ob hr
          refine s_16 (k := (195 + 1 + j5)) (i := x2) (j := j6) (x := x3) C hV hS (kd_r z_195 (ix_in (i := x1) e5).2.2) e6 dX7_putNumber_27 (fun H locs hV hS => ?_)
          exact fin_v C hV hS (Option.some.inj hr) dX7_putNumber_28
set_option maxHeartbeats 4000000 in
set_option maxRecDepth 100000 in
theorem c_X7_formOf (l : Launch) (G : LG) (b0 : Nat) (V : St) (x0 : Int32) (res : Nat) (hr : f_X7_formOf x0 = some res) : Met l yX7_formOf (wy yX7_formOf cX7_formOf 1 (some (.object "java/lang/String"))) (rm 0) (va_Pc [.int x0] (Iv G b0 V)) (QS G b0 res V) 0 0 (Ab b0) := by
  refine mk_m (by decide +kernel) (Nat.le_of_ble_eq_true rfl) ?_
  intro p e s m below meth c C hV hS ls hl
  obtain ⟨args, hargs⟩ : ∃ z, z = ([.int x0] : List Value).toArray := ⟨_, rfl⟩
  rw [← hargs] at C ⊢
  obtain ⟨hx, hb, hrt, hml, hown, hts, hlocks, hK, hSv⟩ := id C
  have hl : lv_has ls 1 [(0, .int x0)] := hl
  unfold f_X7_formOf at hr
  refine lv_iload_n hx hb dX7_formOf_0 rfl (lv_at hl 0 rfl) ?_
  by_cases b_1 : x0 = 0
  · have hr := it b_1 hr
    refine lv_tableIn (off := 43) (tgt := 44) hx hb dX7_formOf_1 (by rw [b_1]; decide) (by rw [b_1]; decide) (by rw [b_1]; decide +kernel) (by decide) ?_
    refine va_ldcS hx hb hown (st_20 hK) dX7_formOf_44 ?_
    exact fin_s C hV hS (Option.some.inj hr) dX7_formOf_46
  have hr := ie b_1 hr
  by_cases b_2 : x0 = 1
  · have hr := it b_2 hr
    refine lv_tableIn (off := 46) (tgt := 47) hx hb dX7_formOf_1 (by rw [b_2]; decide) (by rw [b_2]; decide) (by rw [b_2]; decide +kernel) (by decide) ?_
    refine va_ldcS hx hb hown (st_21 hK) dX7_formOf_47 ?_
    exact fin_s C hV hS (Option.some.inj hr) dX7_formOf_49
  have hr := ie b_2 hr
  by_cases b_3 : x0 = 2
  · have hr := it b_3 hr
    refine lv_tableIn (off := 49) (tgt := 50) hx hb dX7_formOf_1 (by rw [b_3]; decide) (by rw [b_3]; decide) (by rw [b_3]; decide +kernel) (by decide) ?_
    refine va_ldcS hx hb hown (st_22 hK) dX7_formOf_50 ?_
    exact fin_s C hV hS (Option.some.inj hr) dX7_formOf_52
  have hr := ie b_3 hr
  by_cases b_4 : x0 = 3
  · have hr := it b_4 hr
    refine lv_tableIn (off := 52) (tgt := 53) hx hb dX7_formOf_1 (by rw [b_4]; decide) (by rw [b_4]; decide) (by rw [b_4]; decide +kernel) (by decide) ?_
    refine va_ldcS hx hb hown (st_23 hK) dX7_formOf_53 ?_
    exact fin_s C hV hS (Option.some.inj hr) dX7_formOf_55
  have hr := ie b_4 hr
  by_cases b_5 : x0 = 4
  · have hr := it b_5 hr
    refine lv_tableIn (off := 55) (tgt := 56) hx hb dX7_formOf_1 (by rw [b_5]; decide) (by rw [b_5]; decide) (by rw [b_5]; decide +kernel) (by decide) ?_
    refine va_ldcS hx hb hown (st_24 hK) dX7_formOf_56 ?_
    exact fin_s C hV hS (Option.some.inj hr) dX7_formOf_58
  have hr := ie b_5 hr
  by_cases b_6 : x0 = 5
  · have hr := it b_6 hr
    refine lv_tableIn (off := 58) (tgt := 59) hx hb dX7_formOf_1 (by rw [b_6]; decide) (by rw [b_6]; decide) (by rw [b_6]; decide +kernel) (by decide) ?_
    refine va_ldcS hx hb hown (st_25 hK) dX7_formOf_59 ?_
    exact fin_s C hV hS (Option.some.inj hr) dX7_formOf_61
  have hr := ie b_6 hr
  by_cases b_7 : x0 = 6
  · have hr := it b_7 hr
    refine lv_tableIn (off := 61) (tgt := 62) hx hb dX7_formOf_1 (by rw [b_7]; decide) (by rw [b_7]; decide) (by rw [b_7]; decide +kernel) (by decide) ?_
    refine va_ldcS hx hb hown (st_26 hK) dX7_formOf_62 ?_
    exact fin_s C hV hS (Option.some.inj hr) dX7_formOf_64
  have hr := ie b_7 hr
  have n_1 := lv_neT (a := 0) b_1 (by decide)
  have n_2 := lv_neT (a := 1) b_2 (by decide)
  have n_3 := lv_neT (a := 2) b_3 (by decide)
  have n_4 := lv_neT (a := 3) b_4 (by decide)
  have n_5 := lv_neT (a := 4) b_5 (by decide)
  have n_6 := lv_neT (a := 5) b_6 (by decide)
  have n_7 := lv_neT (a := 6) b_7 (by decide)
  refine lv_tableOut (tgt := 65) hx hb dX7_formOf_1 (by omega) (by decide) ?_
  refine va_ldcS hx hb hown (st_27 hK) dX7_formOf_65 ?_
  exact fin_s C hV hS (Option.some.inj hr) dX7_formOf_67
set_option maxHeartbeats 4000000 in
set_option maxRecDepth 100000 in
theorem c_X7_isInText (l : Launch) (G : LG) (b0 : Nat) (V : St) (res : Int32) (hr : f_X7_isInText V = some res) : Met l yX7_isInText (wy yX7_isInText cX7_isInText 1 (some .boolean)) (rm 0) (va_Pc [.ref (b0 + 192)] (Iv G b0 V)) (QI G b0 res V) 0 0 (Ab b0) := by
  refine mk_m (by decide +kernel) (Nat.le_of_ble_eq_true rfl) ?_
  intro p e s m below meth c C hV hS ls hl
  obtain ⟨args, hargs⟩ : ∃ z, z = ([.ref (b0 + 192)] : List Value).toArray := ⟨_, rfl⟩
  rw [← hargs] at C ⊢
  obtain ⟨hx, hb, hrt, hml, hown, hts, hlocks, hK, hSv⟩ := id C
  have hl : lv_has ls 1 [(0, .ref (b0 + 192))] := hl
  unfold f_X7_isInText at hr
  refine lv_aload_n hx hb dX7_isInText_0 rfl (lv_at hl 0 rfl) ?_
  refine g_X7_2 C hV q_287 dX7_isInText_1 ?_
  refine lv_if_lt (tgt := 31) hx hb dX7_isInText_4 (by decide) (fun b_1 => ?_) (fun b_1 => ?_)
  · have hr := it b_1 hr
    refine lv_iconst (v := 0) hx hb dX7_isInText_31 (by decide) ?_
    exact fin_z C hV hS (by decide) (Option.some.inj hr) dX7_isInText_32
  · have hr := ie b_1 hr
    refine lv_aload_n hx hb dX7_isInText_7 rfl (lv_at hl 0 rfl) ?_
    refine g_X7_2 C hV q_287 dX7_isInText_8 ?_
    refine lv_aload_n hx hb dX7_isInText_11 rfl (lv_at hl 0 rfl) ?_
    refine g_X7_1 C hV q_285 dX7_isInText_12 ?_
    refine lv_icmp_ge (tgt := 31) hx hb dX7_isInText_15 (by decide) (fun b_2 => ?_) (fun b_2 => ?_)
    · have hr := it b_2 hr
      refine lv_iconst (v := 0) hx hb dX7_isInText_31 (by decide) ?_
      exact fin_z C hV hS (by decide) (Option.some.inj hr) dX7_isInText_32
    · have hr := ie b_2 hr
      refine lv_aload_n hx hb dX7_isInText_18 rfl (lv_at hl 0 rfl) ?_
      refine g_X7_2 C hV q_287 dX7_isInText_19 ?_
      refine lv_bipush (v := 60) hx hb dX7_isInText_22 (by decide) ?_
      refine lv_icmp_ge (tgt := 31) hx hb dX7_isInText_24 (by decide) (fun b_3 => ?_) (fun b_3 => ?_)
      · have hr := it b_3 hr
        refine lv_iconst (v := 0) hx hb dX7_isInText_31 (by decide) ?_
        exact fin_z C hV hS (by decide) (Option.some.inj hr) dX7_isInText_32
      · have hr := ie b_3 hr
        refine lv_iconst (v := 1) hx hb dX7_isInText_27 (by decide) ?_
        refine lv_goto (tgt := 32) hx hb dX7_isInText_28 (by decide) ?_
        exact fin_z C hV hS (by decide) (Option.some.inj hr) dX7_isInText_32
