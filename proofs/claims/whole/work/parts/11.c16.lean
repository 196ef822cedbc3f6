set_option maxHeartbeats 4000000 in
set_option maxRecDepth 100000 in
theorem c_X10_ranked (l : Launch) (G : LG) (b0 : Nat) (V : St) (x1 : Int32) (x2 : Int32) (res : Int32 × St) (hr : f_X10_ranked V x1 x2 = some res) : Met l yX10_ranked (wy yX10_ranked cX10_ranked 8 (some .int)) (rm 2) (va_Pc [.ref (b0 + 208), .int x1, .int x2] (Iv G b0 V)) (QI G b0 res.1 res.2) 0 0 (Ab b0) := by
  refine mk_m (by decide +kernel) (Nat.le_of_ble_eq_true rfl) ?_
  intro p e s m below meth c C hV hS ls hl
  obtain ⟨args, hargs⟩ : ∃ z, z = ([.ref (b0 + 208), .int x1, .int x2] : List Value).toArray := ⟨_, rfl⟩
  rw [← hargs] at C ⊢
  obtain ⟨hx, hb, hrt, hml, hown, hts, hlocks, hK, hSv⟩ := id C
  have hl : lv_has ls 8 [(0, .ref (b0 + 208)), (1, .int x1), (2, .int x2)] := hl
  have K_47 : ∀ (c_36 : St → Int32 → Int32 → Option (Int32 × St)) (hc_36 : ∀ (V : St) (x3 : Int32) (x4 : Int32), c_36 V x3 x4 = some res → ∀ (H : Heap) (locs : List Loc) (ls : Array Slot), Hd G b0 V H → va_S (Ab b0) s.heap H locs → lv_has ls 8 [(0, .ref (b0 + 208)), (3, .int x3), (4, .int x4)] → W p l e (rm 2) s m args below meth c H locs 0 0 (MQ below (QI G b0 res.1 res.2) args s 0 0 (Ab b0)) (F0 m 36 ls [])) (n : Nat) (V : St) (x3 : Int32) (x4 : Int32) (x5 : Int32), f_X10_ranked_b47 c_36 n V x3 x4 x5 = some res → ∀ (H : Heap) (locs : List Loc) (ls : Array Slot), Hd G b0 V H → va_S (Ab b0) s.heap H locs → lv_has ls 8 [(0, .ref (b0 + 208)), (3, .int x3), (4, .int x4), (5, .int x5)] → W p l e (rm 2) s m args below meth c H locs 0 0 (MQ below (QI G b0 res.1 res.2) args s 0 0 (Ab b0)) (F0 m 47 ls []) := by
    intro c_36 hc_36 n
    induction n with
    | zero =>
      intro V x3 x4 x5 hr
      rw [f_X10_ranked_b47] at hr
      cases hr
    | succ n ih =>
      intro V x3 x4 x5 hr H locs ls hV hS hl
      rw [f_X10_ranked_b47] at hr
      refine lv_iload hx hb dX10_ranked_47 (lv_at hl 3 rfl) ?_
      refine lv_if_eq (tgt := 106) hx hb dX10_ranked_49 (by decide) (fun b_1 => ?_) (fun b_1 => ?_)
      · have hr := it b_1 hr
        refine lv_iinc (v := x4 + (-1)) (lv' := [(4, .int (x4 + (-1))), (0, .ref (b0 + 208)), (3, .int x3), (5, .int x5)]) hx hb dX10_ranked_106 hl (k := 2) rfl rfl (by decide) rfl (fun ls hl => ?_)
        refine lv_goto (tgt := 36) hx hb dX10_ranked_109 (by decide) ?_
        exact hc_36 _ x3 (x4 + (-1)) hr _ _ ls hV hS (lv_sub hl [1, 2, 0] rfl)
      · have hr := ie b_1 hr
        refine lv_iload hx hb dX10_ranked_52 (lv_at hl 3 rfl) ?_
        obtain ⟨q2, e2, hr⟩ := ob hr
        refine cal_i (run_S (As := [.int x5]) (rest := []) C hV hS (c_X10_lowest l G b0 V x5 q2 e2) q_1548 q_1549 q_151 q_1550 dk_X10_lowest (rm_ok (by decide) (by decide)) hl.1 rfl (Nat.le_of_ble_eq_true rfl) dX10_ranked_54 ⟨Nat.zero_le _, Nat.zero_le _⟩) hS (fun H locs hV hS => ?_)
        refine lv_istore (lv' := [(6, .int q2), (0, .ref (b0 + 208)), (3, .int x3), (4, .int x4), (5, .int x5)]) hx hb dX10_ranked_57 hl (by decide) rfl (fun ls hl => ?_)
        refine lv_aload_n hx hb dX10_ranked_59 rfl (lv_at hl 1 rfl) ?_
        refine lv_iload hx hb dX10_ranked_60 (lv_at hl 0 rfl) ?_
        refine lv_aload_n hx hb dX10_ranked_62 rfl (lv_at hl 1 rfl) ?_
        refine g_X10_19 C hV q_1410 dX10_ranked_63 ?_
        obtain ⟨q3, e3, hr⟩ := ob hr
        refine cal_i (run_V (As := [.int q2, .int (V 208 19)]) (rest := []) C hV hS (c_X10_together l G b0 V q2 (V 208 19) q3 e3) (rcv hK hV (kd_lt z_208 (by decide)) (cel_20 z_208) rfl) q_1551 q_1553 q_107 q_151 q_1554 dk_X10_together (rm_ok (by decide) (by decide)) hl.1 rfl (Nat.le_of_ble_eq_true rfl) dX10_ranked_66 ⟨Nat.zero_le _, Nat.zero_le _⟩) hS (fun H locs hV hS => ?_)
        refine lv_istore (lv' := [(7, .int q3), (6, .int q2), (0, .ref (b0 + 208)), (3, .int x3), (4, .int x4), (5, .int x5)]) hx hb dX10_ranked_69 hl (by decide) rfl (fun ls hl => ?_)
        refine lv_iload hx hb dX10_ranked_71 (lv_at hl 5 rfl) ?_
        refine lv_iload hx hb dX10_ranked_73 (lv_at hl 0 rfl) ?_
        refine lv_iconst (v := (-1)) hx hb dX10_ranked_75 (by decide) ?_
        refine lv_ixor hx hb dX10_ranked_76 ?_
        refine lv_iand hx hb dX10_ranked_77 ?_
        refine lv_istore (lv' := [(5, .int (x5 &&& (q3 ^^^ (-1)))), (7, .int q3), (6, .int q2), (0, .ref (b0 + 208)), (3, .int x3), (4, .int x4)]) hx hb dX10_ranked_78 hl (by decide) rfl (fun ls hl => ?_)
        refine lv_iload hx hb dX10_ranked_80 (lv_at hl 1 rfl) ?_
        obtain ⟨q4, e4, hr⟩ := ob hr
        refine cal_i (run_S (As := [.int q3]) (rest := []) C hV hS (c_X10_bits l G b0 V q3 q4 e4) q_1595 q_1596 q_151 q_1597 dk_X10_bits (rm_ok (by decide) (by decide)) hl.1 rfl (Nat.le_of_ble_eq_true rfl) dX10_ranked_82 ⟨Nat.zero_le _, Nat.zero_le _⟩) hS (fun H locs hV hS => ?_)
        refine lv_iload hx hb dX10_ranked_85 (lv_at hl 5 rfl) ?_
        refine lv_icmp_eq (tgt := 93) hx hb dX10_ranked_87 (by decide) (fun b_5 => ?_) (fun b_5 => ?_)
        · have hr := it b_5 hr
          refine lv_iload_n hx hb dX10_ranked_93 rfl (lv_at hl 4 rfl) ?_
          refine lv_if_ne (tgt := 100) hx hb dX10_ranked_94 (by decide) (fun b_6 => ?_) (fun b_6 => ?_)
          · have hr := ie b_6 hr
            refine lv_iinc (v := x3 + (-1)) (lv' := [(3, .int (x3 + (-1))), (5, .int (x5 &&& (q3 ^^^ (-1)))), (7, .int q3), (6, .int q2), (0, .ref (b0 + 208)), (4, .int x4)]) hx hb dX10_ranked_100 hl (k := 4) rfl rfl (by decide) rfl (fun ls hl => ?_)
            refine lv_goto (tgt := 47) hx hb dX10_ranked_103 (by decide) ?_
            exact ih _ (x3 + (-1)) x4 (x5 &&& (q3 ^^^ (-1))) hr _ _ ls hV hS (lv_sub hl [4, 0, 5, 1] rfl)
          · have hr := it b_6 hr
            refine lv_iload hx hb dX10_ranked_97 (lv_at hl 2 rfl) ?_
            rw [← Option.some.inj hr]
            exact fin_i C hV hS rfl dX10_ranked_99
        · have hr := ie b_5 hr
          refine lv_goto (tgt := 47) hx hb dX10_ranked_90 (by decide) ?_
          exact ih _ x3 x4 (x5 &&& (q3 ^^^ (-1))) hr _ _ ls hV hS (lv_sub hl [3, 4, 5, 0] rfl)
  have K_36 : ∀ (n : Nat) (V : St) (x3 : Int32) (x4 : Int32), f_X10_ranked_b36 n V x3 x4 = some res → ∀ (H : Heap) (locs : List Loc) (ls : Array Slot), Hd G b0 V H → va_S (Ab b0) s.heap H locs → lv_has ls 8 [(0, .ref (b0 + 208)), (3, .int x3), (4, .int x4)] → W p l e (rm 2) s m args below meth c H locs 0 0 (MQ below (QI G b0 res.1 res.2) args s 0 0 (Ab b0)) (F0 m 36 ls []) := by
    intro  n
    induction n with
    | zero =>
      intro V x3 x4 hr
      rw [f_X10_ranked_b36] at hr
      cases hr
    | succ n ih =>
      intro V x3 x4 hr H locs ls hV hS hl
      rw [f_X10_ranked_b36] at hr
      refine lv_iload hx hb dX10_ranked_36 (lv_at hl 2 rfl) ?_
      refine lv_if_le (tgt := 112) hx hb dX10_ranked_38 (by decide) (fun b_7 => ?_) (fun b_7 => ?_)
      · have hr := it b_7 hr
        refine lv_aload_n hx hb dX10_ranked_112 rfl (lv_at hl 0 rfl) ?_
        refine lv_iconst (v := 2) hx hb dX10_ranked_113 (by decide) ?_
        obtain ⟨q8, e8, hr⟩ := ob hr
        refine cal_i (run_V (As := [.int 2]) (rest := []) C hV hS (c_X10_fails l G b0 V 2 q8 e8) (rcv hK hV (kd_lt z_208 (by decide)) (cel_20 z_208) rfl) q_1523 q_1525 q_103 q_151 q_1526 dk_X10_fails (rm_ok (by decide) (by decide)) hl.1 rfl (Nat.le_of_ble_eq_true rfl) dX10_ranked_114 ⟨Nat.zero_le _, Nat.zero_le _⟩) hS (fun H locs hV hS => ?_)
        rw [← Option.some.inj hr]
        exact fin_i C hV hS rfl dX10_ranked_117
      · have hr := ie b_7 hr
        refine lv_aload_n hx hb dX10_ranked_41 rfl (lv_at hl 0 rfl) ?_
        refine g_X10_19 C hV q_1410 dX10_ranked_42 ?_
        refine lv_istore (lv' := [(5, .int (V 208 19)), (0, .ref (b0 + 208)), (3, .int x3), (4, .int x4)]) hx hb dX10_ranked_45 hl (by decide) rfl (fun ls hl => ?_)
        exact K_47 (fun V x3 x4 => f_X10_ranked_b36 n V x3 x4) (fun V x3 x4 hr => ih V x3 x4 hr) 500 _ x3 x4 (V 208 19) hr _ _ ls hV hS (lv_sub hl [1, 2, 3, 0] rfl)
  have K_13 : ∀ (V : St) (x1 : Int32) (x2 : Int32) (y0 : Int32), f_X10_ranked_b13 V x1 x2 y0 = some res → ∀ (H : Heap) (locs : List Loc) (ls : Array Slot), Hd G b0 V H → va_S (Ab b0) s.heap H locs → lv_has ls 8 [(0, .ref (b0 + 208)), (1, .int x1), (2, .int x2)] → W p l e (rm 2) s m args below meth c H locs 0 0 (MQ below (QI G b0 res.1 res.2) args s 0 0 (Ab b0)) (F0 m 13 ls [.int y0, .ref (b0 + 208)]) := by
    intro V x1 x2 y0 hr H locs ls hV hS hl
    unfold f_X10_ranked_b13 at hr
    refine p_X10_0 (x := y0) C hV hS q_1391 dX10_ranked_13 (fun H locs hV hS => ?_)
    refine lv_aload_n hx hb dX10_ranked_16 rfl (lv_at hl 0 rfl) ?_
    refine g_X10_0 C hV q_1391 dX10_ranked_17 ?_
    refine lv_if_le (tgt := 25) hx hb dX10_ranked_20 (by decide) (fun b_9 => ?_) (fun b_9 => ?_)
    · have hr := it b_9 hr
      refine lv_aload_n hx hb dX10_ranked_25 rfl (lv_at hl 0 rfl) ?_
      refine lv_iload_n hx hb dX10_ranked_26 rfl (lv_at hl 1 rfl) ?_
      obtain ⟨q10, e10, hr⟩ := ob hr
      refine cal_v (run_V (As := [.int x1]) (rest := []) C hV hS (c_X10_looksAt l G b0 (up V 208 0 y0) x1 q10 e10) (rcv hK hV (kd_lt z_208 (by decide)) (cel_20 z_208) rfl) q_1538 q_1540 q_105 q_151 q_1541 dk_X10_looksAt (rm_ok (by decide) (by decide)) hl.1 rfl (Nat.le_of_ble_eq_true rfl) dX10_ranked_27 ⟨Nat.zero_le _, Nat.zero_le _⟩) hS (fun H locs hV hS => ?_)
      refine lv_iload_n hx hb dX10_ranked_30 rfl (lv_at hl 2 rfl) ?_
      refine lv_istore_n (lv' := [(3, .int x2), (0, .ref (b0 + 208)), (1, .int x1), (2, .int x2)]) hx hb dX10_ranked_31 rfl hl (by decide) rfl (fun ls hl => ?_)
      refine lv_bipush (v := 24) hx hb dX10_ranked_32 (by decide) ?_
      refine lv_istore (lv' := [(4, .int 24), (3, .int x2), (0, .ref (b0 + 208)), (1, .int x1), (2, .int x2)]) hx hb dX10_ranked_34 hl (by decide) rfl (fun ls hl => ?_)
      exact K_36 500 _ x2 24 hr _ _ ls hV hS (lv_sub hl [2, 1, 0] rfl)
    · have hr := ie b_9 hr
      refine lv_iconst (v := 0) hx hb dX10_ranked_23 (by decide) ?_
      rw [← Option.some.inj hr]
      exact fin_i C hV hS rfl dX10_ranked_24
  unfold f_X10_ranked at hr
  refine lv_aload_n hx hb dX10_ranked_0 rfl (lv_at hl 0 rfl) ?_
  refine lv_iload_n hx hb dX10_ranked_1 rfl (lv_at hl 1 rfl) ?_
  obtain ⟨q11, e11, hr⟩ := ob hr
  refine cal_i (run_S (As := [.int x1]) (rest := [.ref (b0 + 208)]) C hV hS (c_X10_isNet l G b0 V x1 q11 e11) q_1486 q_1487 q_151 q_1488 dk_X10_isNet (rm_ok (by decide) (by decide)) hl.1 rfl (Nat.le_of_ble_eq_true rfl) dX10_ranked_2 ⟨Nat.zero_le _, Nat.zero_le _⟩) hS (fun H locs hV hS => ?_)
  refine lv_if_eq (tgt := 12) hx hb dX10_ranked_5 (by decide) (fun b_12 => ?_) (fun b_12 => ?_)
  · have hr := it b_12 hr
    refine lv_iconst (v := 1) hx hb dX10_ranked_12 (by decide) ?_
    exact K_13 _ x1 x2 1 hr _ _ ls hV hS (lv_sub hl [0, 1, 2] rfl)
  · have hr := ie b_12 hr
    refine lv_iconst (v := 0) hx hb dX10_ranked_8 (by decide) ?_
    refine lv_goto (tgt := 13) hx hb dX10_ranked_9 (by decide) ?_
    exact K_13 _ x1 x2 0 hr _ _ ls hV hS (lv_sub hl [0, 1, 2] rfl)
set_option maxHeartbeats 4000000 in
set_option maxRecDepth 100000 in
theorem c_X10_editorOf (l : Launch) (G : LG) (b0 : Nat) (V : St) (x1 : Int32) (x2 : Int32) (res : Int32 × St) (hr : f_X10_editorOf V x1 x2 = some res) : Met l yX10_editorOf (wy yX10_editorOf cX10_editorOf 3 (some .int)) (rm 1) (va_Pc [.ref (b0 + 208), .int x1, .int x2] (Iv G b0 V)) (QI G b0 res.1 res.2) 0 0 (Ab b0) := by
  refine mk_m (by decide +kernel) (Nat.le_of_ble_eq_true rfl) ?_
  intro p e s m below meth c C hV hS ls hl
  obtain ⟨args, hargs⟩ : ∃ z, z = ([.ref (b0 + 208), .int x1, .int x2] : List Value).toArray := ⟨_, rfl⟩
  rw [← hargs] at C ⊢
  obtain ⟨hx, hb, hrt, hml, hown, hts, hlocks, hK, hSv⟩ := id C
  have hl : lv_has ls 3 [(0, .ref (b0 + 208)), (1, .int x1), (2, .int x2)] := hl
  have K_35 : ∀ (V : St) (x1 : Int32) (x2 : Int32) (y0 : Int32), f_X10_editorOf_b35 V x1 x2 y0 = some res → ∀ (H : Heap) (locs : List Loc) (ls : Array Slot), Hd G b0 V H → va_S (Ab b0) s.heap H locs → lv_has ls 3 [(0, .ref (b0 + 208)), (1, .int x1), (2, .int x2)] → W p l e (rm 1) s m args below meth c H locs 0 0 (MQ below (QI G b0 res.1 res.2) args s 0 0 (Ab b0)) (F0 m 35 ls [.int y0, .ref (b0 + 208)]) := by
    intro V x1 x2 y0 hr H locs ls hV hS hl
    unfold f_X10_editorOf_b35 at hr
    refine p_X10_0 (x := y0) C hV hS q_1391 dX10_editorOf_35 (fun H locs hV hS => ?_)
    refine lv_aload_n hx hb dX10_editorOf_38 rfl (lv_at hl 0 rfl) ?_
    refine g_X10_0 C hV q_1391 dX10_editorOf_39 ?_
    refine lv_if_le (tgt := 49) hx hb dX10_editorOf_42 (by decide) (fun b_1 => ?_) (fun b_1 => ?_)
    · have hr := it b_1 hr
      refine lv_aload_n hx hb dX10_editorOf_49 rfl (lv_at hl 0 rfl) ?_
      refine g_X10_1 C hV q_1392 dX10_editorOf_50 ?_
      refine lv_bipush (v := 21) hx hb dX10_editorOf_53 (by decide) ?_
      refine lv_iconst (v := 2) hx hb dX10_editorOf_55 (by decide) ?_
      refine lv_iload_n hx hb dX10_editorOf_56 rfl (lv_at hl 1 rfl) ?_
      refine lv_imul hx hb dX10_editorOf_57 ?_
      refine lv_iadd hx hb dX10_editorOf_58 ?_
      refine lv_iload_n hx hb dX10_editorOf_59 rfl (lv_at hl 2 rfl) ?_
      refine lv_iadd hx hb dX10_editorOf_60 ?_
      obtain ⟨j2, e2, hr⟩ := ob hr
      refine a_21 (k := 209) (i := ((21 + (2 * x1)) + x2)) (j := j2) C hV z_209 e2 dX10_editorOf_61 ?_
      rw [← Option.some.inj hr]
      exact fin_i C hV hS rfl dX10_editorOf_62
    · have hr := ie b_1 hr
      refine lv_iconst (v := 0) hx hb dX10_editorOf_45 (by decide) ?_
      refine lv_goto (tgt := 62) hx hb dX10_editorOf_46 (by decide) ?_
      rw [← Option.some.inj hr]
      exact fin_i C hV hS rfl dX10_editorOf_62
  unfold f_X10_editorOf at hr
  refine lv_aload_n hx hb dX10_editorOf_0 rfl (lv_at hl 0 rfl) ?_
  refine lv_iload_n hx hb dX10_editorOf_1 rfl (lv_at hl 1 rfl) ?_
  refine lv_iconst (v := 0) hx hb dX10_editorOf_2 (by decide) ?_
  refine lv_aload_n hx hb dX10_editorOf_3 rfl (lv_at hl 0 rfl) ?_
  refine g_X10_1 C hV q_1392 dX10_editorOf_4 ?_
  refine lv_iconst (v := 1) hx hb dX10_editorOf_7 (by decide) ?_
  refine a_21 (k := 209) (i := 1) (j := 1) C hV z_209 (by decide) dX10_editorOf_8 ?_
  refine lv_iconst (v := 1) hx hb dX10_editorOf_9 (by decide) ?_
  refine lv_isub hx hb dX10_editorOf_10 ?_
  obtain ⟨q3, e3, hr⟩ := ob hr
  refine cal_i (run_S (As := [.int x1, .int 0, .int ((V 209 1) - 1)]) (rest := [.ref (b0 + 208)]) C hV hS (c_X10_in l G b0 V x1 0 ((V 209 1) - 1) q3 e3) q_1489 q_1490 q_151 q_1491 dk_X10_in (rm_ok (by decide) (by decide)) hl.1 rfl (Nat.le_of_ble_eq_true rfl) dX10_editorOf_11 ⟨Nat.zero_le _, Nat.zero_le _⟩) hS (fun H locs hV hS => ?_)
  refine lv_if_ne (tgt := 21) hx hb dX10_editorOf_14 (by decide) (fun b_4 => ?_) (fun b_4 => ?_)
  · have hr := ie b_4 hr
    refine lv_iload_n hx hb dX10_editorOf_21 rfl (lv_at hl 2 rfl) ?_
    refine lv_iconst (v := 0) hx hb dX10_editorOf_22 (by decide) ?_
    refine lv_iconst (v := 1) hx hb dX10_editorOf_23 (by decide) ?_
    obtain ⟨q5, e5, hr⟩ := ob hr
    refine cal_i (run_S (As := [.int x2, .int 0, .int 1]) (rest := [.ref (b0 + 208)]) C hV hS (c_X10_in l G b0 V x2 0 1 q5 e5) q_1489 q_1490 q_151 q_1491 dk_X10_in (rm_ok (by decide) (by decide)) hl.1 rfl (Nat.le_of_ble_eq_true rfl) dX10_editorOf_24 ⟨Nat.zero_le _, Nat.zero_le _⟩) hS (fun H locs hV hS => ?_)
    refine lv_if_eq (tgt := 34) hx hb dX10_editorOf_27 (by decide) (fun b_6 => ?_) (fun b_6 => ?_)
    · have hr := it b_6 hr
      refine lv_iconst (v := 2) hx hb dX10_editorOf_34 (by decide) ?_
      exact K_35 _ x1 x2 2 hr _ _ ls hV hS (lv_sub hl [0, 1, 2] rfl)
    · have hr := ie b_6 hr
      refine lv_iconst (v := 0) hx hb dX10_editorOf_30 (by decide) ?_
      refine lv_goto (tgt := 35) hx hb dX10_editorOf_31 (by decide) ?_
      exact K_35 _ x1 x2 0 hr _ _ ls hV hS (lv_sub hl [0, 1, 2] rfl)
  · have hr := it b_4 hr
    refine lv_iconst (v := 1) hx hb dX10_editorOf_17 (by decide) ?_
    refine lv_goto (tgt := 35) hx hb dX10_editorOf_18 (by decide) ?_
    exact K_35 _ x1 x2 1 hr _ _ ls hV hS (lv_sub hl [0, 1, 2] rfl)
set_option maxHeartbeats 4000000 in
set_option maxRecDepth 100000 in
theorem c_X10_feed (l : Launch) (G : LG) (b0 : Nat) (V : St) (x1 : Int32) (res : Int32 × St) (hr : f_X10_feed V x1 = some res) : Met l yX10_feed (wy yX10_feed cX10_feed 2 (some .int)) (rm 0) (va_Pc [.ref (b0 + 208), .int x1] (Iv G b0 V)) (QI G b0 res.1 res.2) 0 0 (Ab b0) := by
  refine mk_m (by decide +kernel) (Nat.le_of_ble_eq_true rfl) ?_
  intro p e s m below meth c C hV hS ls hl
  obtain ⟨args, hargs⟩ : ∃ z, z = ([.ref (b0 + 208), .int x1] : List Value).toArray := ⟨_, rfl⟩
  rw [← hargs] at C ⊢
  obtain ⟨hx, hb, hrt, hml, hown, hts, hlocks, hK, hSv⟩ := id C
  have hl : lv_has ls 2 [(0, .ref (b0 + 208)), (1, .int x1)] := hl
  have K_15 : ∀ (V : St) (x1 : Int32) (y0 : Int32), f_X10_feed_b15 V x1 y0 = some res → ∀ (H : Heap) (locs : List Loc) (ls : Array Slot), Hd G b0 V H → va_S (Ab b0) s.heap H locs → lv_has ls 2 [(0, .ref (b0 + 208)), (1, .int x1)] → W p l e (rm 0) s m args below meth c H locs 0 0 (MQ below (QI G b0 res.1 res.2) args s 0 0 (Ab b0)) (F0 m 15 ls [.int y0, .ref (b0 + 208)]) := by
    intro V x1 y0 hr H locs ls hV hS hl
    unfold f_X10_feed_b15 at hr
    refine p_X10_0 (x := y0) C hV hS q_1391 dX10_feed_15 (fun H locs hV hS => ?_)
    refine lv_aload_n hx hb dX10_feed_18 rfl (lv_at hl 0 rfl) ?_
    refine g_X10_0 C hV q_1391 dX10_feed_19 ?_
    refine lv_if_le (tgt := 27) hx hb dX10_feed_22 (by decide) (fun b_1 => ?_) (fun b_1 => ?_)
    · have hr := it b_1 hr
      refine lv_aload_n hx hb dX10_feed_27 rfl (lv_at hl 0 rfl) ?_
      refine g_X10_7 C hV q_1398 dX10_feed_28 ?_
      refine lv_aload_n hx hb dX10_feed_31 rfl (lv_at hl 0 rfl) ?_
      refine g_X10_10 C hV q_1401 dX10_feed_32 ?_
      refine lv_iload_n hx hb dX10_feed_35 rfl (lv_at hl 1 rfl) ?_
      obtain ⟨j2, e2, hr⟩ := ob hr
      refine s_25 (k := 213) (i := ((up V 208 0 y0) 208 10)) (j := j2) (x := x1) C hV hS z_213 e2 dX10_feed_36 (fun H locs hV hS => ?_)
      refine lv_aload_n hx hb dX10_feed_37 rfl (lv_at hl 0 rfl) ?_
      refine lv_dup hx hb dX10_feed_38 rfl ?_
      refine g_X10_10 C hV q_1401 dX10_feed_39 ?_
      refine lv_iconst (v := 1) hx hb dX10_feed_42 (by decide) ?_
      refine lv_iadd hx hb dX10_feed_43 ?_
      refine p_X10_10 (x := (((up (up V 208 0 y0) 213 j2 x1) 208 10) + 1)) C hV hS q_1401 dX10_feed_44 (fun H locs hV hS => ?_)
      refine lv_aload_n hx hb dX10_feed_47 rfl (lv_at hl 0 rfl) ?_
      refine g_X10_10 C hV q_1401 dX10_feed_48 ?_
      rw [← Option.some.inj hr]
      exact fin_i C hV hS rfl dX10_feed_51
    · have hr := ie b_1 hr
      refine lv_iconst (v := 0) hx hb dX10_feed_25 (by decide) ?_
      rw [← Option.some.inj hr]
      exact fin_i C hV hS rfl dX10_feed_26
  unfold f_X10_feed at hr
  refine lv_aload_n hx hb dX10_feed_0 rfl (lv_at hl 0 rfl) ?_
  refine lv_aload_n hx hb dX10_feed_1 rfl (lv_at hl 0 rfl) ?_
  refine g_X10_10 C hV q_1401 dX10_feed_2 ?_
  refine lv_bipush (v := 60) hx hb dX10_feed_5 (by decide) ?_
  refine lv_icmp_ne (tgt := 14) hx hb dX10_feed_7 (by decide) (fun b_3 => ?_) (fun b_3 => ?_)
  · have hr := ie b_3 hr
    refine lv_iconst (v := 0) hx hb dX10_feed_14 (by decide) ?_
    exact K_15 _ x1 0 hr _ _ ls hV hS (lv_sub hl [0, 1] rfl)
  · have hr := it b_3 hr
    refine lv_iconst (v := 1) hx hb dX10_feed_10 (by decide) ?_
    refine lv_goto (tgt := 15) hx hb dX10_feed_11 (by decide) ?_
    exact K_15 _ x1 1 hr _ _ ls hV hS (lv_sub hl [0, 1] rfl)
set_option maxHeartbeats 4000000 in
set_option maxRecDepth 100000 in
theorem c_X10_here (l : Launch) (G : LG) (b0 : Nat) (V : St) (x1 : Int32) (res : Int32) (hr : f_X10_here V x1 = some res) : Met l yX10_here (wy yX10_here cX10_here 2 (some .int)) (rm 0) (va_Pc [.ref (b0 + 208), .int x1] (Iv G b0 V)) (QI G b0 res V) 0 0 (Ab b0) := by
  refine mk_m (by decide +kernel) (Nat.le_of_ble_eq_true rfl) ?_
  intro p e s m below meth c C hV hS ls hl
  obtain ⟨args, hargs⟩ : ∃ z, z = ([.ref (b0 + 208), .int x1] : List Value).toArray := ⟨_, rfl⟩
  rw [← hargs] at C ⊢
  obtain ⟨hx, hb, hrt, hml, hown, hts, hlocks, hK, hSv⟩ := id C
  have hl : lv_has ls 2 [(0, .ref (b0 + 208)), (1, .int x1)] := hl
  unfold f_X10_here at hr
  refine lv_aload_n hx hb dX10_here_0 rfl (lv_at hl 0 rfl) ?_
  refine g_X10_22 C hV q_1413 dX10_here_1 ?_
  refine lv_iload_n hx hb dX10_here_4 rfl (lv_at hl 1 rfl) ?_
  refine lv_iadd hx hb dX10_here_5 ?_
  refine lv_aload_n hx hb dX10_here_6 rfl (lv_at hl 0 rfl) ?_
  refine g_X10_23 C hV q_1414 dX10_here_7 ?_
  refine lv_icmp_ge (tgt := 27) hx hb dX10_here_10 (by decide) (fun b_1 => ?_) (fun b_1 => ?_)
  · have hr := it b_1 hr
    refine lv_iconst (v := (-1)) hx hb dX10_here_27 (by decide) ?_
    exact fin_i C hV hS (Option.some.inj hr) dX10_here_28
  · have hr := ie b_1 hr
    refine lv_aload_n hx hb dX10_here_13 rfl (lv_at hl 0 rfl) ?_
    refine g_X10_7 C hV q_1398 dX10_here_14 ?_
    refine lv_aload_n hx hb dX10_here_17 rfl (lv_at hl 0 rfl) ?_
    refine g_X10_22 C hV q_1413 dX10_here_18 ?_
    refine lv_iload_n hx hb dX10_here_21 rfl (lv_at hl 1 rfl) ?_
    refine lv_iadd hx hb dX10_here_22 ?_
    obtain ⟨j2, e2, hr⟩ := ob hr
    refine a_25 (k := 213) (i := ((V 208 22) + x1)) (j := j2) C hV z_213 e2 dX10_here_23 ?_
    refine lv_goto (tgt := 28) hx hb dX10_here_24 (by decide) ?_
    exact fin_i C hV hS (Option.some.inj hr) dX10_here_28
set_option maxHeartbeats 4000000 in
set_option maxRecDepth 100000 in
theorem c_X10_says (l : Launch) (G : LG) (b0 : Nat) (V : St) (t1 : Nat) (res : St) (hr : f_X10_says V t1 = some res) : Met l yX10_says (wy yX10_says cX10_says 3 none) (rm 5) (va_Pc [.ref (b0 + 208), .ref (G.2.2 t1)] (Iv G b0 V)) (QV G b0 res) 0 0 (Ab b0) := by
  refine mk_m (by decide +kernel) (Nat.le_of_ble_eq_true rfl) ?_
  intro p e s m below meth c C hV hS ls hl
  obtain ⟨args, hargs⟩ : ∃ z, z = ([.ref (b0 + 208), .ref (G.2.2 t1)] : List Value).toArray := ⟨_, rfl⟩
  rw [← hargs] at C ⊢
  obtain ⟨hx, hb, hrt, hml, hown, hts, hlocks, hK, hSv⟩ := id C
  have hl : lv_has ls 3 [(0, .ref (b0 + 208)), (1, .ref (G.2.2 t1))] := hl
  have K_56 : ∀ (c_2 : St → Nat → Int32 → Option (St)) (hc_2 : ∀ (V : St) (t1 : Nat) (x2 : Int32), c_2 V t1 x2 = some res → ∀ (H : Heap) (locs : List Loc) (ls : Array Slot), Hd G b0 V H → va_S (Ab b0) s.heap H locs → lv_has ls 3 [(0, .ref (b0 + 208)), (1, .ref (G.2.2 t1)), (2, .int x2)] → W p l e (rm 5) s m args below meth c H locs 0 0 (MQ below (QV G b0 res) args s 0 0 (Ab b0)) (F0 m 2 ls [])) (V : St) (t1 : Nat) (x2 : Int32) (y0 : Int32) (y1 : Int32), f_X10_says_b56 c_2 V t1 x2 y0 y1 = some res → ∀ (H : Heap) (locs : List Loc) (ls : Array Slot), Hd G b0 V H → va_S (Ab b0) s.heap H locs → lv_has ls 3 [(0, .ref (b0 + 208)), (1, .ref (G.2.2 t1)), (2, .int x2)] → W p l e (rm 5) s m args below meth c H locs 0 0 (MQ below (QV G b0 res) args s 0 0 (Ab b0)) (F0 m 56 ls [.int y0, .int y1, .ref (b0 + 208)]) := by
    intro c_2 hc_2 V t1 x2 y0 y1 hr H locs ls hV hS hl
    unfold f_X10_says_b56 at hr
    refine lv_iadd hx hb dX10_says_56 ?_
    refine p_X10_22 (x := (y1 + y0)) C hV hS q_1413 dX10_says_57 (fun H locs hV hS => ?_)
    refine lv_iinc (v := x2 + 1) (lv' := [(2, .int (x2 + 1)), (0, .ref (b0 + 208)), (1, .ref (G.2.2 t1))]) hx hb dX10_says_60 hl (k := 2) rfl rfl (by decide) rfl (fun ls hl => ?_)
    refine lv_goto (tgt := 2) hx hb dX10_says_63 (by decide) ?_
    exact hc_2 _ t1 (x2 + 1) hr _ _ ls hV hS (lv_sub hl [1, 2, 0] rfl)
  have K_36 : ∀ (c_2 : St → Nat → Int32 → Option (St)) (hc_2 : ∀ (V : St) (t1 : Nat) (x2 : Int32), c_2 V t1 x2 = some res → ∀ (H : Heap) (locs : List Loc) (ls : Array Slot), Hd G b0 V H → va_S (Ab b0) s.heap H locs → lv_has ls 3 [(0, .ref (b0 + 208)), (1, .ref (G.2.2 t1)), (2, .int x2)] → W p l e (rm 5) s m args below meth c H locs 0 0 (MQ below (QV G b0 res) args s 0 0 (Ab b0)) (F0 m 2 ls [])) (V : St) (t1 : Nat) (x2 : Int32) (y0 : Int32), f_X10_says_b36 c_2 V t1 x2 y0 = some res → ∀ (H : Heap) (locs : List Loc) (ls : Array Slot), Hd G b0 V H → va_S (Ab b0) s.heap H locs → lv_has ls 3 [(0, .ref (b0 + 208)), (1, .ref (G.2.2 t1)), (2, .int x2)] → W p l e (rm 5) s m args below meth c H locs 0 0 (MQ below (QV G b0 res) args s 0 0 (Ab b0)) (F0 m 36 ls [.int y0, .ref (b0 + 208)]) := by
    intro c_2 hc_2 V t1 x2 y0 hr H locs ls hV hS hl
    unfold f_X10_says_b36 at hr
    obtain ⟨q1, e1, hr⟩ := ob hr
    refine p_X10_25 (x := y0) C hV hS q_1416 (nr_in e1).2 dX10_says_36 (fun H locs hV hS => ?_)
    refine lv_aload_n hx hb dX10_says_39 rfl (lv_at hl 0 rfl) ?_
    refine lv_dup hx hb dX10_says_40 rfl ?_
    refine g_X10_22 C hV q_1413 dX10_says_41 ?_
    refine lv_aload_n hx hb dX10_says_44 rfl (lv_at hl 0 rfl) ?_
    refine g_X10_25 C hV q_1416 dX10_says_45 ?_
    refine lv_if_eq (tgt := 55) hx hb dX10_says_48 (by decide) (fun b_2 => ?_) (fun b_2 => ?_)
    · have hr := it b_2 hr
      refine lv_iconst (v := 1) hx hb dX10_says_55 (by decide) ?_
      exact K_56 c_2 hc_2 _ t1 x2 1 ((up V 208 25 y0) 208 22) hr _ _ ls hV hS (lv_sub hl [0, 1, 2] rfl)
    · have hr := ie b_2 hr
      refine lv_iconst (v := 0) hx hb dX10_says_51 (by decide) ?_
      refine lv_goto (tgt := 56) hx hb dX10_says_52 (by decide) ?_
      exact K_56 c_2 hc_2 _ t1 x2 0 ((up V 208 25 y0) 208 22) hr _ _ ls hV hS (lv_sub hl [0, 1, 2] rfl)
  have K_2 : ∀ (n : Nat) (V : St) (t1 : Nat) (x2 : Int32), f_X10_says_b2 n V t1 x2 = some res → ∀ (H : Heap) (locs : List Loc) (ls : Array Slot), Hd G b0 V H → va_S (Ab b0) s.heap H locs → lv_has ls 3 [(0, .ref (b0 + 208)), (1, .ref (G.2.2 t1)), (2, .int x2)] → W p l e (rm 5) s m args below meth c H locs 0 0 (MQ below (QV G b0 res) args s 0 0 (Ab b0)) (F0 m 2 ls []) := by
    intro  n
    induction n with
    | zero =>
      intro V t1 x2 hr
      rw [f_X10_says_b2] at hr
      cases hr
    | succ n ih =>
      intro V t1 x2 hr H locs ls hV hS hl
      rw [f_X10_says_b2] at hr
      refine lv_iload_n hx hb dX10_says_2 rfl (lv_at hl 2 rfl) ?_
      refine lv_aload_n hx hb dX10_says_3 rfl (lv_at hl 1 rfl) ?_
      obtain ⟨q3, e3, hr⟩ := ob hr
      refine cal_i (run_V (As := []) (rest := [.int x2]) C hV hS (c_J0_length_8abf5 l G b0 V t1 q3 e3) (rcs_J0_length_8abf5 hSv hS e3) q_1734 q_1130 q_1131 q_160 q_1132 dk_J0_length_8abf5 (rm_ok (by decide) (by decide)) hl.1 rfl (Nat.le_of_ble_eq_true rfl) dX10_says_4 ⟨Nat.zero_le _, Nat.zero_le _⟩) hS (fun H locs hV hS => ?_)
      refine lv_icmp_ge (tgt := 66) hx hb dX10_says_7 (by decide) (fun b_4 => ?_) (fun b_4 => ?_)
      · have hr := it b_4 hr
        exact fin_v C hV hS (Option.some.inj hr) dX10_says_66
      · have hr := ie b_4 hr
        refine lv_aload_n hx hb dX10_says_10 rfl (lv_at hl 0 rfl) ?_
        refine g_X10_25 C hV q_1416 dX10_says_11 ?_
        refine lv_if_ne (tgt := 66) hx hb dX10_says_14 (by decide) (fun b_5 => ?_) (fun b_5 => ?_)
        · have hr := ie b_5 hr
          exact fin_v C hV hS (Option.some.inj hr) dX10_says_66
        · have hr := it b_5 hr
          refine lv_aload_n hx hb dX10_says_17 rfl (lv_at hl 0 rfl) ?_
          refine lv_aload_n hx hb dX10_says_18 rfl (lv_at hl 0 rfl) ?_
          refine lv_iconst (v := 0) hx hb dX10_says_19 (by decide) ?_
          obtain ⟨q6, e6, hr⟩ := ob hr
          refine cal_i (run_V (As := [.int 0]) (rest := [.ref (b0 + 208)]) C hV hS (c_X10_here l G b0 V 0 q6 e6) (rcv hK hV (kd_lt z_208 (by decide)) (cel_20 z_208) rfl) q_1720 q_1722 q_128 q_151 q_1723 dk_X10_here (rm_ok (by decide) (by decide)) hl.1 rfl (Nat.le_of_ble_eq_true rfl) dX10_says_20 ⟨Nat.zero_le _, Nat.zero_le _⟩) hS (fun H locs hV hS => ?_)
          refine lv_aload_n hx hb dX10_says_23 rfl (lv_at hl 1 rfl) ?_
          refine lv_iload_n hx hb dX10_says_24 rfl (lv_at hl 2 rfl) ?_
          obtain ⟨q7, e7, hr⟩ := ob hr
          refine cal_i (run_V (As := [.int x2]) (rest := [.int q6, .ref (b0 + 208)]) C hV hS (c_J0_charAt_5068e l G b0 V t1 x2 q7 e7) (rcs_J0_charAt_5068e hSv hS e7) q_1735 q_1140 q_1141 q_160 q_1142 dk_J0_charAt_5068e (rm_ok (by decide) (by decide)) hl.1 rfl (Nat.le_of_ble_eq_true rfl) dX10_says_25 ⟨Nat.zero_le _, Nat.zero_le _⟩) hS (fun H locs hV hS => ?_)
          refine lv_icmp_eq (tgt := 35) hx hb dX10_says_28 (by decide) (fun b_8 => ?_) (fun b_8 => ?_)
          · have hr := it b_8 hr
            refine lv_iconst (v := 0) hx hb dX10_says_35 (by decide) ?_
            exact K_36 (fun V t1 x2 => f_X10_says_b2 n V t1 x2) (fun V t1 x2 hr => ih V t1 x2 hr) _ t1 x2 0 hr _ _ ls hV hS (lv_sub hl [0, 1, 2] rfl)
          · have hr := ie b_8 hr
            refine lv_iconst (v := 1) hx hb dX10_says_31 (by decide) ?_
            refine lv_goto (tgt := 36) hx hb dX10_says_32 (by decide) ?_
            exact K_36 (fun V t1 x2 => f_X10_says_b2 n V t1 x2) (fun V t1 x2 hr => ih V t1 x2 hr) _ t1 x2 1 hr _ _ ls hV hS (lv_sub hl [0, 1, 2] rfl)
  unfold f_X10_says at hr
  refine lv_iconst (v := 0) hx hb dX10_says_0 (by decide) ?_
  refine lv_istore_n (lv' := [(2, .int 0), (0, .ref (b0 + 208)), (1, .ref (G.2.2 t1))]) hx hb dX10_says_1 rfl hl (by decide) rfl (fun ls hl => ?_)
  exact K_2 500 _ t1 0 hr _ _ ls hV hS (lv_sub hl [1, 2, 0] rfl)
set_option maxHeartbeats 4000000 in
set_option maxRecDepth 100000 in
theorem c_X10_figure (l : Launch) (G : LG) (b0 : Nat) (V : St) (x1 : Int32) (x2 : Int32) (res : St) (hr : f_X10_figure V x1 x2 = some res) : Met l yX10_figure (wy yX10_figure cX10_figure 5 none) (rm 1) (va_Pc [.ref (b0 + 208), .int x1, .int x2] (Iv G b0 V)) (QV G b0 res) 0 0 (Ab b0) := by
  refine mk_m (by decide +kernel) (Nat.le_of_ble_eq_true rfl) ?_
  intro p e s m below meth c C hV hS ls hl
  obtain ⟨args, hargs⟩ : ∃ z, z = ([.ref (b0 + 208), .int x1, .int x2] : List Value).toArray := ⟨_, rfl⟩
  rw [← hargs] at C ⊢
  obtain ⟨hx, hb, hrt, hml, hown, hts, hlocks, hK, hSv⟩ := id C
  have hl : lv_has ls 5 [(0, .ref (b0 + 208)), (1, .int x1), (2, .int x2)] := hl
  have K_81 : ∀ (V : St) (x1 : Int32) (x3 : Int32) (y0 : Int32), f_X10_figure_b81 V x1 x3 y0 = some res → ∀ (H : Heap) (locs : List Loc) (ls : Array Slot), Hd G b0 V H → va_S (Ab b0) s.heap H locs → lv_has ls 5 [(0, .ref (b0 + 208)), (1, .int x1), (3, .int x3)] → W p l e (rm 1) s m args below meth c H locs 0 0 (MQ below (QV G b0 res) args s 0 0 (Ab b0)) (F0 m 81 ls [.int y0, .ref (b0 + 208)]) := by
    intro V x1 x3 y0 hr H locs ls hV hS hl
    unfold f_X10_figure_b81 at hr
    obtain ⟨q1, e1, hr⟩ := ob hr
    refine p_X10_25 (x := y0) C hV hS q_1416 (nr_in e1).2 dX10_figure_81 (fun H locs hV hS => ?_)
    refine lv_aload_n hx hb dX10_figure_84 rfl (lv_at hl 0 rfl) ?_
    refine g_X10_8 C hV q_1399 dX10_figure_85 ?_
    refine lv_iconst (v := 5) hx hb dX10_figure_88 (by decide) ?_
    refine lv_aload_n hx hb dX10_figure_89 rfl (lv_at hl 0 rfl) ?_
    refine g_X10_24 C hV q_1415 dX10_figure_90 ?_
    refine lv_imul hx hb dX10_figure_93 ?_
    refine lv_iload_n hx hb dX10_figure_94 rfl (lv_at hl 1 rfl) ?_
    refine lv_iadd hx hb dX10_figure_95 ?_
    refine lv_iload_n hx hb dX10_figure_96 rfl (lv_at hl 2 rfl) ?_
    obtain ⟨j2, e2, hr⟩ := ob hr
    refine s_26 (k := 214) (i := ((5 * ((up V 208 25 y0) 208 24)) + x1)) (j := j2) (x := x3) C hV hS z_214 e2 dX10_figure_97 (fun H locs hV hS => ?_)
    exact fin_v C hV hS (Option.some.inj hr) dX10_figure_98
  have K_76 : ∀ (V : St) (x1 : Int32) (x3 : Int32), f_X10_figure_b76 V x1 x3 = some res → ∀ (H : Heap) (locs : List Loc) (ls : Array Slot), Hd G b0 V H → va_S (Ab b0) s.heap H locs → lv_has ls 5 [(0, .ref (b0 + 208)), (1, .int x1), (3, .int x3)] → W p l e (rm 1) s m args below meth c H locs 0 0 (MQ below (QV G b0 res) args s 0 0 (Ab b0)) (F0 m 76 ls [.ref (b0 + 208)]) := by
    intro V x1 x3 hr H locs ls hV hS hl
    unfold f_X10_figure_b76 at hr
    refine lv_iconst (v := 1) hx hb dX10_figure_76 (by decide) ?_
    refine lv_goto (tgt := 81) hx hb dX10_figure_77 (by decide) ?_
    exact K_81 _ x1 x3 1 hr _ _ ls hV hS (lv_sub hl [0, 1, 2] rfl)
  have K_63 : ∀ (V : St) (x1 : Int32) (x3 : Int32) (x4 : Int32), f_X10_figure_b63 V x1 x3 x4 = some res → ∀ (H : Heap) (locs : List Loc) (ls : Array Slot), Hd G b0 V H → va_S (Ab b0) s.heap H locs → lv_has ls 5 [(0, .ref (b0 + 208)), (1, .int x1), (3, .int x3), (4, .int x4)] → W p l e (rm 1) s m args below meth c H locs 0 0 (MQ below (QV G b0 res) args s 0 0 (Ab b0)) (F0 m 63 ls []) := by
    intro V x1 x3 x4 hr H locs ls hV hS hl
    unfold f_X10_figure_b63 at hr
    refine lv_aload_n hx hb dX10_figure_63 rfl (lv_at hl 0 rfl) ?_
    refine lv_aload_n hx hb dX10_figure_64 rfl (lv_at hl 0 rfl) ?_
    refine g_X10_25 C hV q_1416 dX10_figure_65 ?_
    refine lv_if_ne (tgt := 76) hx hb dX10_figure_68 (by decide) (fun b_3 => ?_) (fun b_3 => ?_)
    · have hr := ie b_3 hr
      exact K_76 _ x1 x3 hr _ _ ls hV hS (lv_sub hl [0, 1, 2] rfl)
    · have hr := it b_3 hr
      refine lv_iload hx hb dX10_figure_71 (lv_at hl 3 rfl) ?_
      refine lv_if_ne (tgt := 80) hx hb dX10_figure_73 (by decide) (fun b_4 => ?_) (fun b_4 => ?_)
      · have hr := ie b_4 hr
        refine lv_iconst (v := 0) hx hb dX10_figure_80 (by decide) ?_
        exact K_81 _ x1 x3 0 hr _ _ ls hV hS (lv_sub hl [0, 1, 2] rfl)
      · have hr := it b_4 hr
        exact K_76 _ x1 x3 hr _ _ ls hV hS (lv_sub hl [0, 1, 2] rfl)
  have K_5 : ∀ (n : Nat) (V : St) (x1 : Int32) (x2 : Int32) (x3 : Int32) (x4 : Int32), f_X10_figure_b5 n V x1 x2 x3 x4 = some res → ∀ (H : Heap) (locs : List Loc) (ls : Array Slot), Hd G b0 V H → va_S (Ab b0) s.heap H locs → lv_has ls 5 [(0, .ref (b0 + 208)), (1, .int x1), (2, .int x2), (3, .int x3), (4, .int x4)] → W p l e (rm 1) s m args below meth c H locs 0 0 (MQ below (QV G b0 res) args s 0 0 (Ab b0)) (F0 m 5 ls []) := by
    intro  n
    induction n with
    | zero =>
      intro V x1 x2 x3 x4 hr
      rw [f_X10_figure_b5] at hr
      cases hr
    | succ n ih =>
      intro V x1 x2 x3 x4 hr H locs ls hV hS hl
      rw [f_X10_figure_b5] at hr
      refine lv_aload_n hx hb dX10_figure_5 rfl (lv_at hl 0 rfl) ?_
      refine g_X10_25 C hV q_1416 dX10_figure_6 ?_
      refine lv_if_ne (tgt := 63) hx hb dX10_figure_9 (by decide) (fun b_5 => ?_) (fun b_5 => ?_)
      · have hr := ie b_5 hr
        exact K_63 _ x1 x3 x4 hr _ _ ls hV hS (lv_sub hl [0, 1, 3, 4] rfl)
      · have hr := it b_5 hr
        refine lv_iload hx hb dX10_figure_12 (lv_at hl 4 rfl) ?_
        refine lv_iload_n hx hb dX10_figure_14 rfl (lv_at hl 2 rfl) ?_
        refine lv_icmp_ge (tgt := 63) hx hb dX10_figure_15 (by decide) (fun b_6 => ?_) (fun b_6 => ?_)
        · have hr := it b_6 hr
          exact K_63 _ x1 x3 x4 hr _ _ ls hV hS (lv_sub hl [0, 1, 3, 4] rfl)
        · have hr := ie b_6 hr
          refine lv_aload_n hx hb dX10_figure_18 rfl (lv_at hl 0 rfl) ?_
          refine lv_iconst (v := 0) hx hb dX10_figure_19 (by decide) ?_
          obtain ⟨q7, e7, hr⟩ := ob hr
          refine cal_i (run_V (As := [.int 0]) (rest := []) C hV hS (c_X10_here l G b0 V 0 q7 e7) (rcv hK hV (kd_lt z_208 (by decide)) (cel_20 z_208) rfl) q_1720 q_1722 q_128 q_151 q_1723 dk_X10_here (rm_ok (by decide) (by decide)) hl.1 rfl (Nat.le_of_ble_eq_true rfl) dX10_figure_20 ⟨Nat.zero_le _, Nat.zero_le _⟩) hS (fun H locs hV hS => ?_)
          refine lv_bipush (v := 48) hx hb dX10_figure_23 (by decide) ?_
          refine lv_bipush (v := 57) hx hb dX10_figure_25 (by decide) ?_
          obtain ⟨q8, e8, hr⟩ := ob hr
          refine cal_i (run_S (As := [.int q7, .int 48, .int 57]) (rest := []) C hV hS (c_X10_in l G b0 V q7 48 57 q8 e8) q_1489 q_1490 q_151 q_1491 dk_X10_in (rm_ok (by decide) (by decide)) hl.1 rfl (Nat.le_of_ble_eq_true rfl) dX10_figure_27 ⟨Nat.zero_le _, Nat.zero_le _⟩) hS (fun H locs hV hS => ?_)
          refine lv_if_eq (tgt := 63) hx hb dX10_figure_30 (by decide) (fun b_9 => ?_) (fun b_9 => ?_)
          · have hr := it b_9 hr
            exact K_63 _ x1 x3 x4 hr _ _ ls hV hS (lv_sub hl [0, 1, 3, 4] rfl)
          · have hr := ie b_9 hr
            refine lv_bipush (v := 10) hx hb dX10_figure_33 (by decide) ?_
            refine lv_iload_n hx hb dX10_figure_35 rfl (lv_at hl 3 rfl) ?_
            refine lv_imul hx hb dX10_figure_36 ?_
            refine lv_aload_n hx hb dX10_figure_37 rfl (lv_at hl 0 rfl) ?_
            refine lv_iconst (v := 0) hx hb dX10_figure_38 (by decide) ?_
            obtain ⟨q10, e10, hr⟩ := ob hr
            refine cal_i (run_V (As := [.int 0]) (rest := [.int (10 * x3)]) C hV hS (c_X10_here l G b0 V 0 q10 e10) (rcv hK hV (kd_lt z_208 (by decide)) (cel_20 z_208) rfl) q_1720 q_1722 q_128 q_151 q_1723 dk_X10_here (rm_ok (by decide) (by decide)) hl.1 rfl (Nat.le_of_ble_eq_true rfl) dX10_figure_39 ⟨Nat.zero_le _, Nat.zero_le _⟩) hS (fun H locs hV hS => ?_)
            refine lv_iadd hx hb dX10_figure_42 ?_
            refine lv_bipush (v := 48) hx hb dX10_figure_43 (by decide) ?_
            refine lv_isub hx hb dX10_figure_45 ?_
            refine lv_istore_n (lv' := [(3, .int (((10 * x3) + q10) - 48)), (0, .ref (b0 + 208)), (1, .int x1), (2, .int x2), (4, .int x4)]) hx hb dX10_figure_46 rfl hl (by decide) rfl (fun ls hl => ?_)
            refine lv_aload_n hx hb dX10_figure_47 rfl (lv_at hl 1 rfl) ?_
            refine lv_dup hx hb dX10_figure_48 rfl ?_
            refine g_X10_22 C hV q_1413 dX10_figure_49 ?_
            refine lv_iconst (v := 1) hx hb dX10_figure_52 (by decide) ?_
            refine lv_iadd hx hb dX10_figure_53 ?_
            refine p_X10_22 (x := ((V 208 22) + 1)) C hV hS q_1413 dX10_figure_54 (fun H locs hV hS => ?_)
            refine lv_iinc (v := x4 + 1) (lv' := [(4, .int (x4 + 1)), (3, .int (((10 * x3) + q10) - 48)), (0, .ref (b0 + 208)), (1, .int x1), (2, .int x2)]) hx hb dX10_figure_57 hl (k := 4) rfl rfl (by decide) rfl (fun ls hl => ?_)
            refine lv_goto (tgt := 5) hx hb dX10_figure_60 (by decide) ?_
            exact ih _ x1 x2 (((10 * x3) + q10) - 48) (x4 + 1) hr _ _ ls hV hS (lv_sub hl [2, 3, 4, 1, 0] rfl)
  unfold f_X10_figure at hr
  refine lv_iconst (v := 0) hx hb dX10_figure_0 (by decide) ?_
  refine lv_istore_n (lv' := [(3, .int 0), (0, .ref (b0 + 208)), (1, .int x1), (2, .int x2)]) hx hb dX10_figure_1 rfl hl (by decide) rfl (fun ls hl => ?_)
  refine lv_iconst (v := 0) hx hb dX10_figure_2 (by decide) ?_
  refine lv_istore (lv' := [(4, .int 0), (3, .int 0), (0, .ref (b0 + 208)), (1, .int x1), (2, .int x2)]) hx hb dX10_figure_3 hl (by decide) rfl (fun ls hl => ?_)
  exact K_5 500 _ x1 x2 0 0 hr _ _ ls hV hS (lv_sub hl [2, 3, 4, 1, 0] rfl)
set_option maxHeartbeats 4000000 in
set_option maxRecDepth 100000 in
theorem c_X10_string (l : Launch) (G : LG) (b0 : Nat) (V : St) (t1 : Nat) (res : St) (hr : f_X10_string V t1 = some res) : Met l yX10_string (wy yX10_string cX10_string 2 none) (rm 6) (va_Pc [.ref (b0 + 208), .ref (G.2.2 t1)] (Iv G b0 V)) (QV G b0 res) 0 0 (Ab b0) := by
  refine mk_m (by decide +kernel) (Nat.le_of_ble_eq_true rfl) ?_
  intro p e s m below meth c C hV hS ls hl
  obtain ⟨args, hargs⟩ : ∃ z, z = ([.ref (b0 + 208), .ref (G.2.2 t1)] : List Value).toArray := ⟨_, rfl⟩
  rw [← hargs] at C ⊢
  obtain ⟨hx, hb, hrt, hml, hown, hts, hlocks, hK, hSv⟩ := id C
  have hl : lv_has ls 2 [(0, .ref (b0 + 208)), (1, .ref (G.2.2 t1))] := hl
  unfold f_X10_string at hr
  refine lv_aload_n hx hb dX10_string_0 rfl (lv_at hl 0 rfl) ?_
  refine lv_aload_n hx hb dX10_string_1 rfl (lv_at hl 1 rfl) ?_
  obtain ⟨q1, e1, hr⟩ := ob hr
  refine cal_v (run_V (As := [.ref (G.2.2 t1)]) (rest := []) C hV hS (c_X10_says l G b0 V t1 q1 e1) (rcv hK hV (kd_lt z_208 (by decide)) (cel_20 z_208) rfl) q_1730 q_1732 q_130 q_151 q_1733 dk_X10_says (rm_ok (by decide) (by decide)) hl.1 rfl (Nat.le_of_ble_eq_true rfl) dX10_string_2 ⟨Nat.zero_le _, Nat.zero_le _⟩) hS (fun H locs hV hS => ?_)
  refine lv_aload_n hx hb dX10_string_5 rfl (lv_at hl 0 rfl) ?_
  refine lv_iconst (v := 1) hx hb dX10_string_6 (by decide) ?_
  refine lv_iconst (v := 1) hx hb dX10_string_7 (by decide) ?_
  obtain ⟨q2, e2, hr⟩ := ob hr
  refine cal_v (run_V (As := [.int 1, .int 1]) (rest := []) C hV hS (c_X10_figure l G b0 q1 1 1 q2 e2) (rcv hK hV (kd_lt z_208 (by decide)) (cel_20 z_208) rfl) q_1736 q_1738 q_131 q_151 q_1739 dk_X10_figure (rm_ok (by decide) (by decide)) hl.1 rfl (Nat.le_of_ble_eq_true rfl) dX10_string_8 ⟨Nat.zero_le _, Nat.zero_le _⟩) hS (fun H locs hV hS => ?_)
  refine lv_aload_n hx hb dX10_string_11 rfl (lv_at hl 0 rfl) ?_
  refine va_ldcS hx hb hown (st_39 hK) dX10_string_12 ?_
  obtain ⟨q3, e3, hr⟩ := ob hr
  refine cal_v (run_V (As := [.ref (G.2.2 39)]) (rest := []) C hV hS (c_X10_says l G b0 q2 39 q3 e3) (rcv hK hV (kd_lt z_208 (by decide)) (cel_20 z_208) rfl) q_1730 q_1732 q_130 q_151 q_1733 dk_X10_says (rm_ok (by decide) (by decide)) hl.1 rfl (Nat.le_of_ble_eq_true rfl) dX10_string_14 ⟨Nat.zero_le _, Nat.zero_le _⟩) hS (fun H locs hV hS => ?_)
  refine lv_aload_n hx hb dX10_string_17 rfl (lv_at hl 0 rfl) ?_
  refine lv_iconst (v := 2) hx hb dX10_string_18 (by decide) ?_
  refine lv_iconst (v := 2) hx hb dX10_string_19 (by decide) ?_
  obtain ⟨q4, e4, hr⟩ := ob hr
  refine cal_v (run_V (As := [.int 2, .int 2]) (rest := []) C hV hS (c_X10_figure l G b0 q3 2 2 q4 e4) (rcv hK hV (kd_lt z_208 (by decide)) (cel_20 z_208) rfl) q_1736 q_1738 q_131 q_151 q_1739 dk_X10_figure (rm_ok (by decide) (by decide)) hl.1 rfl (Nat.le_of_ble_eq_true rfl) dX10_string_20 ⟨Nat.zero_le _, Nat.zero_le _⟩) hS (fun H locs hV hS => ?_)
  refine lv_aload_n hx hb dX10_string_23 rfl (lv_at hl 0 rfl) ?_
  refine va_ldcS hx hb hown (st_42 hK) dX10_string_24 ?_
  obtain ⟨q5, e5, hr⟩ := ob hr
  refine cal_v (run_V (As := [.ref (G.2.2 42)]) (rest := []) C hV hS (c_X10_says l G b0 q4 42 q5 e5) (rcv hK hV (kd_lt z_208 (by decide)) (cel_20 z_208) rfl) q_1730 q_1732 q_130 q_151 q_1733 dk_X10_says (rm_ok (by decide) (by decide)) hl.1 rfl (Nat.le_of_ble_eq_true rfl) dX10_string_26 ⟨Nat.zero_le _, Nat.zero_le _⟩) hS (fun H locs hV hS => ?_)
  refine lv_aload_n hx hb dX10_string_29 rfl (lv_at hl 0 rfl) ?_
  refine lv_iconst (v := 3) hx hb dX10_string_30 (by decide) ?_
  refine lv_iconst (v := 2) hx hb dX10_string_31 (by decide) ?_
  obtain ⟨q6, e6, hr⟩ := ob hr
  refine cal_v (run_V (As := [.int 3, .int 2]) (rest := []) C hV hS (c_X10_figure l G b0 q5 3 2 q6 e6) (rcv hK hV (kd_lt z_208 (by decide)) (cel_20 z_208) rfl) q_1736 q_1738 q_131 q_151 q_1739 dk_X10_figure (rm_ok (by decide) (by decide)) hl.1 rfl (Nat.le_of_ble_eq_true rfl) dX10_string_32 ⟨Nat.zero_le _, Nat.zero_le _⟩) hS (fun H locs hV hS => ?_)
  exact fin_v C hV hS (Option.some.inj hr) dX10_string_35
set_option maxHeartbeats 4000000 in
set_option maxRecDepth 100000 in
theorem c_X10_one (l : Launch) (G : LG) (b0 : Nat) (V : St) (t1 : Nat) (x2 : Int32) (res : St) (hr : f_X10_one V t1 x2 = some res) : Met l yX10_one (wy yX10_one cX10_one 3 none) (rm 6) (va_Pc [.ref (b0 + 208), .ref (G.2.2 t1), .int x2] (Iv G b0 V)) (QV G b0 res) 0 0 (Ab b0) := by
  refine mk_m (by decide +kernel) (Nat.le_of_ble_eq_true rfl) ?_
  intro p e s m below meth c C hV hS ls hl
  obtain ⟨args, hargs⟩ : ∃ z, z = ([.ref (b0 + 208), .ref (G.2.2 t1), .int x2] : List Value).toArray := ⟨_, rfl⟩
  rw [← hargs] at C ⊢
  obtain ⟨hx, hb, hrt, hml, hown, hts, hlocks, hK, hSv⟩ := id C
  have hl : lv_has ls 3 [(0, .ref (b0 + 208)), (1, .ref (G.2.2 t1)), (2, .int x2)] := hl
  unfold f_X10_one at hr
  refine lv_aload_n hx hb dX10_one_0 rfl (lv_at hl 0 rfl) ?_
  refine lv_aload_n hx hb dX10_one_1 rfl (lv_at hl 1 rfl) ?_
  obtain ⟨q1, e1, hr⟩ := ob hr
  refine cal_v (run_V (As := [.ref (G.2.2 t1)]) (rest := []) C hV hS (c_X10_says l G b0 V t1 q1 e1) (rcv hK hV (kd_lt z_208 (by decide)) (cel_20 z_208) rfl) q_1730 q_1732 q_130 q_151 q_1733 dk_X10_says (rm_ok (by decide) (by decide)) hl.1 rfl (Nat.le_of_ble_eq_true rfl) dX10_one_2 ⟨Nat.zero_le _, Nat.zero_le _⟩) hS (fun H locs hV hS => ?_)
  refine lv_aload_n hx hb dX10_one_5 rfl (lv_at hl 0 rfl) ?_
  refine lv_iconst (v := 1) hx hb dX10_one_6 (by decide) ?_
  refine lv_iload_n hx hb dX10_one_7 rfl (lv_at hl 2 rfl) ?_
  obtain ⟨q2, e2, hr⟩ := ob hr
  refine cal_v (run_V (As := [.int 1, .int x2]) (rest := []) C hV hS (c_X10_figure l G b0 q1 1 x2 q2 e2) (rcv hK hV (kd_lt z_208 (by decide)) (cel_20 z_208) rfl) q_1736 q_1738 q_131 q_151 q_1739 dk_X10_figure (rm_ok (by decide) (by decide)) hl.1 rfl (Nat.le_of_ble_eq_true rfl) dX10_one_8 ⟨Nat.zero_le _, Nat.zero_le _⟩) hS (fun H locs hV hS => ?_)
  exact fin_v C hV hS (Option.some.inj hr) dX10_one_11
set_option maxHeartbeats 4000000 in
set_option maxRecDepth 100000 in
theorem c_X10_two (l : Launch) (G : LG) (b0 : Nat) (V : St) (t1 : Nat) (t2 : Nat) (x3 : Int32) (res : St) (hr : f_X10_two V t1 t2 x3 = some res) : Met l yX10_two (wy yX10_two cX10_two 4 none) (rm 6) (va_Pc [.ref (b0 + 208), .ref (G.2.2 t1), .ref (G.2.2 t2), .int x3] (Iv G b0 V)) (QV G b0 res) 0 0 (Ab b0) := by
  refine mk_m (by decide +kernel) (Nat.le_of_ble_eq_true rfl) ?_
  intro p e s m below meth c C hV hS ls hl
  obtain ⟨args, hargs⟩ : ∃ z, z = ([.ref (b0 + 208), .ref (G.2.2 t1), .ref (G.2.2 t2), .int x3] : List Value).toArray := ⟨_, rfl⟩
  rw [← hargs] at C ⊢
  obtain ⟨hx, hb, hrt, hml, hown, hts, hlocks, hK, hSv⟩ := id C
  have hl : lv_has ls 4 [(0, .ref (b0 + 208)), (1, .ref (G.2.2 t1)), (2, .ref (G.2.2 t2)), (3, .int x3)] := hl
  unfold f_X10_two at hr
  refine lv_aload_n hx hb dX10_two_0 rfl (lv_at hl 0 rfl) ?_
  refine lv_aload_n hx hb dX10_two_1 rfl (lv_at hl 1 rfl) ?_
  obtain ⟨q1, e1, hr⟩ := ob hr
  refine cal_v (run_V (As := [.ref (G.2.2 t1)]) (rest := []) C hV hS (c_X10_says l G b0 V t1 q1 e1) (rcv hK hV (kd_lt z_208 (by decide)) (cel_20 z_208) rfl) q_1730 q_1732 q_130 q_151 q_1733 dk_X10_says (rm_ok (by decide) (by decide)) hl.1 rfl (Nat.le_of_ble_eq_true rfl) dX10_two_2 ⟨Nat.zero_le _, Nat.zero_le _⟩) hS (fun H locs hV hS => ?_)
  refine lv_aload_n hx hb dX10_two_5 rfl (lv_at hl 0 rfl) ?_
  refine lv_iconst (v := 1) hx hb dX10_two_6 (by decide) ?_
  refine lv_iconst (v := 1) hx hb dX10_two_7 (by decide) ?_
  obtain ⟨q2, e2, hr⟩ := ob hr
  refine cal_v (run_V (As := [.int 1, .int 1]) (rest := []) C hV hS (c_X10_figure l G b0 q1 1 1 q2 e2) (rcv hK hV (kd_lt z_208 (by decide)) (cel_20 z_208) rfl) q_1736 q_1738 q_131 q_151 q_1739 dk_X10_figure (rm_ok (by decide) (by decide)) hl.1 rfl (Nat.le_of_ble_eq_true rfl) dX10_two_8 ⟨Nat.zero_le _, Nat.zero_le _⟩) hS (fun H locs hV hS => ?_)
  refine lv_aload_n hx hb dX10_two_11 rfl (lv_at hl 0 rfl) ?_
  refine lv_aload_n hx hb dX10_two_12 rfl (lv_at hl 2 rfl) ?_
  obtain ⟨q3, e3, hr⟩ := ob hr
  refine cal_v (run_V (As := [.ref (G.2.2 t2)]) (rest := []) C hV hS (c_X10_says l G b0 q2 t2 q3 e3) (rcv hK hV (kd_lt z_208 (by decide)) (cel_20 z_208) rfl) q_1730 q_1732 q_130 q_151 q_1733 dk_X10_says (rm_ok (by decide) (by decide)) hl.1 rfl (Nat.le_of_ble_eq_true rfl) dX10_two_13 ⟨Nat.zero_le _, Nat.zero_le _⟩) hS (fun H locs hV hS => ?_)
  refine lv_aload_n hx hb dX10_two_16 rfl (lv_at hl 0 rfl) ?_
  refine lv_iconst (v := 2) hx hb dX10_two_17 (by decide) ?_
  refine lv_iload_n hx hb dX10_two_18 rfl (lv_at hl 3 rfl) ?_
  obtain ⟨q4, e4, hr⟩ := ob hr
  refine cal_v (run_V (As := [.int 2, .int x3]) (rest := []) C hV hS (c_X10_figure l G b0 q3 2 x3 q4 e4) (rcv hK hV (kd_lt z_208 (by decide)) (cel_20 z_208) rfl) q_1736 q_1738 q_131 q_151 q_1739 dk_X10_figure (rm_ok (by decide) (by decide)) hl.1 rfl (Nat.le_of_ble_eq_true rfl) dX10_two_19 ⟨Nat.zero_le _, Nat.zero_le _⟩) hS (fun H locs hV hS => ?_)
  exact fin_v C hV hS (Option.some.inj hr) dX10_two_22
