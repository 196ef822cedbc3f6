set_option maxHeartbeats 4000000 in
set_option maxRecDepth 100000 in
theorem c_X9_reasonAgainstEditor (l : Launch) (G : LG) (b0 : Nat) (V : St) (x1 : Int32) (res : Int32 × St) (hr : f_X9_reasonAgainstEditor V x1 = some res) : Met l yX9_reasonAgainstEditor (wy yX9_reasonAgainstEditor cX9_reasonAgainstEditor 2 (some .int)) (rm 1) (va_Pc [.ref (b0 + 0), .int x1] (Iv G b0 V)) (QI G b0 res.1 res.2) 0 0 (Ab b0) := by
  refine mk_m (by decide +kernel) (Nat.le_of_ble_eq_true rfl) ?_
  intro p e s m below meth c C hV hS ls hl
  obtain ⟨args, hargs⟩ : ∃ z, z = ([.ref (b0 + 0), .int x1] : List Value).toArray := ⟨_, rfl⟩
  rw [← hargs] at C ⊢
  obtain ⟨hx, hb, hrt, hml, hown, hts, hlocks, hK, hSv⟩ := id C
  have hl : lv_has ls 2 [(0, .ref (b0 + 0)), (1, .int x1)] := hl
  have K_10 : ∀ (V : St) (x1 : Int32), f_X9_reasonAgainstEditor_b10 V x1 = some res → ∀ (H : Heap) (locs : List Loc) (ls : Array Slot), Hd G b0 V H → va_S (Ab b0) s.heap H locs → lv_has ls 2 [(0, .ref (b0 + 0)), (1, .int x1)] → W p l e (rm 1) s m args below meth c H locs 0 0 (MQ below (QI G b0 res.1 res.2) args s 0 0 (Ab b0)) (F0 m 10 ls []) := by
    intro V x1 hr H locs ls hV hS hl
    unfold f_X9_reasonAgainstEditor_b10 at hr
    refine lv_aload_n hx hb dX9_reasonAgainstEditor_10 rfl (lv_at hl 0 rfl) ?_
    refine lv_iconst (v := 3) hx hb dX9_reasonAgainstEditor_11 (by decide) ?_
    refine lv_iload_n hx hb dX9_reasonAgainstEditor_12 rfl (lv_at hl 1 rfl) ?_
    obtain ⟨q1, e1, hr⟩ := ob hr
    refine cal_i (run_V (As := [.int 3, .int x1]) (rest := []) C hV hS (c_X9_found l G b0 V 3 x1 q1 e1) (rcv hK hV (kd_lt z_0 (by decide)) (cel_0 z_0) rfl) q_612 q_614 q_19 q_93 q_615 dk_X9_found (rm_ok (by decide) (by decide)) hl.1 rfl (Nat.le_of_ble_eq_true rfl) dX9_reasonAgainstEditor_13 ⟨Nat.zero_le _, Nat.zero_le _⟩) hS (fun H locs hV hS => ?_)
    rw [← Option.some.inj hr]
    exact fin_i C hV hS rfl dX9_reasonAgainstEditor_16
  unfold f_X9_reasonAgainstEditor at hr
  refine lv_iload_n hx hb dX9_reasonAgainstEditor_0 rfl (lv_at hl 1 rfl) ?_
  refine lv_if_lt (tgt := 10) hx hb dX9_reasonAgainstEditor_1 (by decide) (fun b_2 => ?_) (fun b_2 => ?_)
  · have hr := it b_2 hr
    exact K_10 _ x1 hr _ _ ls hV hS (lv_sub hl [0, 1] rfl)
  · have hr := ie b_2 hr
    refine lv_iload_n hx hb dX9_reasonAgainstEditor_4 rfl (lv_at hl 1 rfl) ?_
    refine lv_bipush (v := 99) hx hb dX9_reasonAgainstEditor_5 (by decide) ?_
    refine lv_icmp_le (tgt := 17) hx hb dX9_reasonAgainstEditor_7 (by decide) (fun b_3 => ?_) (fun b_3 => ?_)
    · have hr := it b_3 hr
      refine lv_aload_n hx hb dX9_reasonAgainstEditor_17 rfl (lv_at hl 0 rfl) ?_
      refine g_X9_0 C hV q_339 dX9_reasonAgainstEditor_18 ?_
      refine gn_X8_3 (k := 1) C hV z_1 q_215 dX9_reasonAgainstEditor_21 ?_
      refine lv_iconst (v := 4) hx hb dX9_reasonAgainstEditor_24 (by decide) ?_
      refine lv_icmp_lt (tgt := 43) hx hb dX9_reasonAgainstEditor_25 (by decide) (fun b_4 => ?_) (fun b_4 => ?_)
      · have hr := it b_4 hr
        refine lv_iconst (v := 0) hx hb dX9_reasonAgainstEditor_43 (by decide) ?_
        rw [← Option.some.inj hr]
        exact fin_i C hV hS rfl dX9_reasonAgainstEditor_44
      · have hr := ie b_4 hr
        refine lv_aload_n hx hb dX9_reasonAgainstEditor_28 rfl (lv_at hl 0 rfl) ?_
        refine lv_iconst (v := 1) hx hb dX9_reasonAgainstEditor_29 (by decide) ?_
        refine lv_aload_n hx hb dX9_reasonAgainstEditor_30 rfl (lv_at hl 0 rfl) ?_
        refine g_X9_0 C hV q_339 dX9_reasonAgainstEditor_31 ?_
        refine gn_X8_3 (k := 1) C hV z_1 q_215 dX9_reasonAgainstEditor_34 ?_
        obtain ⟨q5, e5, hr⟩ := ob hr
        refine cal_i (run_V (As := [.int 1, .int (V 1 3)]) (rest := []) C hV hS (c_X9_found l G b0 V 1 (V 1 3) q5 e5) (rcv hK hV (kd_lt z_0 (by decide)) (cel_0 z_0) rfl) q_612 q_614 q_19 q_93 q_615 dk_X9_found (rm_ok (by decide) (by decide)) hl.1 rfl (Nat.le_of_ble_eq_true rfl) dX9_reasonAgainstEditor_37 ⟨Nat.zero_le _, Nat.zero_le _⟩) hS (fun H locs hV hS => ?_)
        refine lv_goto (tgt := 44) hx hb dX9_reasonAgainstEditor_40 (by decide) ?_
        rw [← Option.some.inj hr]
        exact fin_i C hV hS rfl dX9_reasonAgainstEditor_44
    · have hr := ie b_3 hr
      exact K_10 _ x1 hr _ _ ls hV hS (lv_sub hl [0, 1] rfl)
set_option maxHeartbeats 4000000 in
set_option maxRecDepth 100000 in
theorem c_X9_editor (l : Launch) (hfl : l.stackTraces = false) (G : LG) (b0 : Nat) (V : St) (x1 : Int32) (res : (Except Nat Int32) × St) (hr : f_X9_editor V x1 = some res) : vx_Met l yX9_editor (wy yX9_editor cX9_editor 2 (some .int)) (rmx 6) (va_Pc [.ref (b0 + 0), .int x1] (Iv G b0 V)) (QIx G b0 res.1 res.2) (XX G b0 (xe res.1) res.2) 1 6 (Ab b0) := by
  refine mk_x (by decide +kernel) (Nat.le_of_ble_eq_true rfl) ?_
  intro p e s m below meth c C ht hV hS ls hl
  obtain ⟨args, hargs⟩ : ∃ z, z = ([.ref (b0 + 0), .int x1] : List Value).toArray := ⟨_, rfl⟩
  rw [← hargs] at C ⊢
  obtain ⟨hx, hb, hrt, hml, hown, hts, hlocks, hK, hSv⟩ := id C
  have hl : lv_has ls 2 [(0, .ref (b0 + 0)), (1, .int x1)] := hl
  unfold f_X9_editor at hr
  refine lv_aload_n hx hb dX9_editor_0 rfl (lv_at hl 0 rfl) ?_
  refine lv_aload_n hx hb dX9_editor_1 rfl (lv_at hl 0 rfl) ?_
  refine lv_iload_n hx hb dX9_editor_2 rfl (lv_at hl 1 rfl) ?_
  obtain ⟨q1, e1, hr⟩ := ob hr
  refine cal_i (run_V (As := [.int x1]) (rest := [.ref (b0 + 0)]) C hV hS (c_X9_reasonAgainstEditor l G b0 V x1 q1 e1) (rcv hK hV (kd_lt z_0 (by decide)) (cel_0 z_0) rfl) q_760 q_762 q_38 q_93 q_763 dk_X9_reasonAgainstEditor (rmx_ok (by decide) (by decide)) hl.1 rfl (Nat.le_of_ble_eq_true rfl) dX9_editor_3 ⟨Nat.zero_le _, Nat.zero_le _⟩) hS (fun H locs hV hS => ?_)
  obtain ⟨q2, e2, hr⟩ := ob hr
  refine cal_i (run_V (As := [.int q1.1]) (rest := []) C hV hS (c_X9_keepsReason l G b0 q1.2 q1.1 q2 e2) (rcv hK hV (kd_lt z_0 (by decide)) (cel_0 z_0) rfl) q_626 q_628 q_21 q_93 q_629 dk_X9_keepsReason (rmx_ok (by decide) (by decide)) hl.1 rfl (Nat.le_of_ble_eq_true rfl) dX9_editor_6 ⟨Nat.zero_le _, Nat.zero_le _⟩) hS (fun H locs hV hS => ?_)
  refine lv_if_eq (tgt := 22) hx hb dX9_editor_9 (by decide) (fun b_3 => ?_) (fun b_3 => ?_)
  · have hr := it b_3 hr
    refine lv_aload_n hx hb dX9_editor_22 rfl (lv_at hl 0 rfl) ?_
    refine g_X9_4 C hV q_343 dX9_editor_23 ?_
    refine lv_aload_n hx hb dX9_editor_26 rfl (lv_at hl 0 rfl) ?_
    refine g_X9_0 C hV q_339 dX9_editor_27 ?_
    obtain ⟨q4, e4, hr⟩ := ob hr
    refine cal_v (run_VN (As := [.ref (b0 + 1)]) (rest := []) C hV hS (c_X1_push l G b0 q2.2 1 z_1 q4 e4) (rcv hK hV (kd_lt z_52 (by decide)) (cel_8 z_52) rfl) q_650 q_652 q_23 q_98 q_653 dk_X1_push (rmx_ok (by decide) (by decide)) hl.1 rfl (Nat.le_of_ble_eq_true rfl) dX9_editor_30 ⟨Nat.zero_le _, Nat.zero_le _⟩) hS (fun H locs hV hS => ?_)
    refine lv_aload_n hx hb dX9_editor_33 rfl (lv_at hl 0 rfl) ?_
    refine g_X9_0 C hV q_339 dX9_editor_34 ?_
    refine lv_iload_n hx hb dX9_editor_37 rfl (lv_at hl 1 rfl) ?_
    obtain ⟨q5, e5, hr⟩ := ob hr
    refine cal_v (run_VN (As := [.int x1]) (rest := []) C hV hS (c_X8_addEditor l G b0 q4 1 z_1 x1 q5 e5) (rcv hK hV (kd_lt z_1 (by decide)) (cel_1 z_1) rfl) q_765 q_767 q_39 q_94 q_768 dk_X8_addEditor (rmx_ok (by decide) (by decide)) hl.1 rfl (Nat.le_of_ble_eq_true rfl) dX9_editor_38 ⟨Nat.zero_le _, Nat.zero_le _⟩) hS (fun H locs hV hS => ?_)
    refine lv_aload_n hx hb dX9_editor_41 rfl (lv_at hl 0 rfl) ?_
    refine g_X9_0 C hV q_339 dX9_editor_42 ?_
    refine gn_X8_3 (k := 1) C hV z_1 q_215 dX9_editor_45 ?_
    refine lv_iconst (v := 1) hx hb dX9_editor_48 (by decide) ?_
    refine lv_isub hx hb dX9_editor_49 ?_
    rw [← Option.some.inj hr]
    exact fin_ix C hV hS rfl dX9_editor_50
  · have hr := ie b_3 hr
    rw [← Option.some.inj hr]
    exact th_0 (ik := 76) (is := 136) (ic := 80) C hfl ht hV hS hl.1 q_634 (st_5 hK) q_644 dX9_editor_12 dX9_editor_15 dX9_editor_16 dX9_editor_18 dX9_editor_21 (Nat.le_of_ble_eq_true rfl) (Nat.le_of_ble_eq_true rfl)
set_option maxHeartbeats 4000000 in
set_option maxRecDepth 100000 in
theorem c_X9_reasonAgainstTide (l : Launch) (G : LG) (b0 : Nat) (V : St) (x1 : Int32) (res : Int32 × St) (hr : f_X9_reasonAgainstTide V x1 = some res) : Met l yX9_reasonAgainstTide (wy yX9_reasonAgainstTide cX9_reasonAgainstTide 2 (some .int)) (rm 1) (va_Pc [.ref (b0 + 0), .int x1] (Iv G b0 V)) (QI G b0 res.1 res.2) 0 0 (Ab b0) := by
  refine mk_m (by decide +kernel) (Nat.le_of_ble_eq_true rfl) ?_
  intro p e s m below meth c C hV hS ls hl
  obtain ⟨args, hargs⟩ : ∃ z, z = ([.ref (b0 + 0), .int x1] : List Value).toArray := ⟨_, rfl⟩
  rw [← hargs] at C ⊢
  obtain ⟨hx, hb, hrt, hml, hown, hts, hlocks, hK, hSv⟩ := id C
  have hl : lv_has ls 2 [(0, .ref (b0 + 0)), (1, .int x1)] := hl
  have K_9 : ∀ (V : St) (x1 : Int32), f_X9_reasonAgainstTide_b9 V x1 = some res → ∀ (H : Heap) (locs : List Loc) (ls : Array Slot), Hd G b0 V H → va_S (Ab b0) s.heap H locs → lv_has ls 2 [(0, .ref (b0 + 0)), (1, .int x1)] → W p l e (rm 1) s m args below meth c H locs 0 0 (MQ below (QI G b0 res.1 res.2) args s 0 0 (Ab b0)) (F0 m 9 ls []) := by
    intro V x1 hr H locs ls hV hS hl
    unfold f_X9_reasonAgainstTide_b9 at hr
    refine lv_aload_n hx hb dX9_reasonAgainstTide_9 rfl (lv_at hl 0 rfl) ?_
    refine lv_iconst (v := 3) hx hb dX9_reasonAgainstTide_10 (by decide) ?_
    refine lv_iload_n hx hb dX9_reasonAgainstTide_11 rfl (lv_at hl 1 rfl) ?_
    obtain ⟨q1, e1, hr⟩ := ob hr
    refine cal_i (run_V (As := [.int 3, .int x1]) (rest := []) C hV hS (c_X9_found l G b0 V 3 x1 q1 e1) (rcv hK hV (kd_lt z_0 (by decide)) (cel_0 z_0) rfl) q_612 q_614 q_19 q_93 q_615 dk_X9_found (rm_ok (by decide) (by decide)) hl.1 rfl (Nat.le_of_ble_eq_true rfl) dX9_reasonAgainstTide_12 ⟨Nat.zero_le _, Nat.zero_le _⟩) hS (fun H locs hV hS => ?_)
    rw [← Option.some.inj hr]
    exact fin_i C hV hS rfl dX9_reasonAgainstTide_15
  unfold f_X9_reasonAgainstTide at hr
  refine lv_iload_n hx hb dX9_reasonAgainstTide_0 rfl (lv_at hl 1 rfl) ?_
  refine lv_if_lt (tgt := 9) hx hb dX9_reasonAgainstTide_1 (by decide) (fun b_2 => ?_) (fun b_2 => ?_)
  · have hr := it b_2 hr
    exact K_9 _ x1 hr _ _ ls hV hS (lv_sub hl [0, 1] rfl)
  · have hr := ie b_2 hr
    refine lv_iload_n hx hb dX9_reasonAgainstTide_4 rfl (lv_at hl 1 rfl) ?_
    refine lv_iconst (v := 4) hx hb dX9_reasonAgainstTide_5 (by decide) ?_
    refine lv_icmp_le (tgt := 16) hx hb dX9_reasonAgainstTide_6 (by decide) (fun b_3 => ?_) (fun b_3 => ?_)
    · have hr := it b_3 hr
      refine lv_aload_n hx hb dX9_reasonAgainstTide_16 rfl (lv_at hl 0 rfl) ?_
      refine g_X9_0 C hV q_339 dX9_reasonAgainstTide_17 ?_
      refine gn_X8_5 (k := 1) C hV z_1 q_219 dX9_reasonAgainstTide_20 ?_
      refine lv_iload_n hx hb dX9_reasonAgainstTide_23 rfl (lv_at hl 1 rfl) ?_
      refine lv_icmp_ne (tgt := 36) hx hb dX9_reasonAgainstTide_24 (by decide) (fun b_4 => ?_) (fun b_4 => ?_)
      · have hr := ie b_4 hr
        refine lv_iconst (v := 0) hx hb dX9_reasonAgainstTide_36 (by decide) ?_
        rw [← Option.some.inj hr]
        exact fin_i C hV hS rfl dX9_reasonAgainstTide_37
      · have hr := it b_4 hr
        refine lv_aload_n hx hb dX9_reasonAgainstTide_27 rfl (lv_at hl 0 rfl) ?_
        refine lv_iconst (v := 4) hx hb dX9_reasonAgainstTide_28 (by decide) ?_
        refine lv_iload_n hx hb dX9_reasonAgainstTide_29 rfl (lv_at hl 1 rfl) ?_
        obtain ⟨q5, e5, hr⟩ := ob hr
        refine cal_i (run_V (As := [.int 4, .int x1]) (rest := []) C hV hS (c_X9_found l G b0 V 4 x1 q5 e5) (rcv hK hV (kd_lt z_0 (by decide)) (cel_0 z_0) rfl) q_612 q_614 q_19 q_93 q_615 dk_X9_found (rm_ok (by decide) (by decide)) hl.1 rfl (Nat.le_of_ble_eq_true rfl) dX9_reasonAgainstTide_30 ⟨Nat.zero_le _, Nat.zero_le _⟩) hS (fun H locs hV hS => ?_)
        refine lv_goto (tgt := 37) hx hb dX9_reasonAgainstTide_33 (by decide) ?_
        rw [← Option.some.inj hr]
        exact fin_i C hV hS rfl dX9_reasonAgainstTide_37
    · have hr := ie b_3 hr
      exact K_9 _ x1 hr _ _ ls hV hS (lv_sub hl [0, 1] rfl)
set_option maxHeartbeats 4000000 in
set_option maxRecDepth 100000 in
theorem c_X9_tide (l : Launch) (hfl : l.stackTraces = false) (G : LG) (b0 : Nat) (V : St) (x1 : Int32) (res : (Except Nat Int32) × St) (hr : f_X9_tide V x1 = some res) : vx_Met l yX9_tide (wy yX9_tide cX9_tide 2 (some .int)) (rmx 6) (va_Pc [.ref (b0 + 0), .int x1] (Iv G b0 V)) (QIx G b0 res.1 res.2) (XX G b0 (xe res.1) res.2) 1 6 (Ab b0) := by
  refine mk_x (by decide +kernel) (Nat.le_of_ble_eq_true rfl) ?_
  intro p e s m below meth c C ht hV hS ls hl
  obtain ⟨args, hargs⟩ : ∃ z, z = ([.ref (b0 + 0), .int x1] : List Value).toArray := ⟨_, rfl⟩
  rw [← hargs] at C ⊢
  obtain ⟨hx, hb, hrt, hml, hown, hts, hlocks, hK, hSv⟩ := id C
  have hl : lv_has ls 2 [(0, .ref (b0 + 0)), (1, .int x1)] := hl
  unfold f_X9_tide at hr
  refine lv_aload_n hx hb dX9_tide_0 rfl (lv_at hl 0 rfl) ?_
  refine lv_aload_n hx hb dX9_tide_1 rfl (lv_at hl 0 rfl) ?_
  refine lv_iload_n hx hb dX9_tide_2 rfl (lv_at hl 1 rfl) ?_
  obtain ⟨q1, e1, hr⟩ := ob hr
  refine cal_i (run_V (As := [.int x1]) (rest := [.ref (b0 + 0)]) C hV hS (c_X9_reasonAgainstTide l G b0 V x1 q1 e1) (rcv hK hV (kd_lt z_0 (by decide)) (cel_0 z_0) rfl) q_776 q_778 q_40 q_93 q_779 dk_X9_reasonAgainstTide (rmx_ok (by decide) (by decide)) hl.1 rfl (Nat.le_of_ble_eq_true rfl) dX9_tide_3 ⟨Nat.zero_le _, Nat.zero_le _⟩) hS (fun H locs hV hS => ?_)
  obtain ⟨q2, e2, hr⟩ := ob hr
  refine cal_i (run_V (As := [.int q1.1]) (rest := []) C hV hS (c_X9_keepsReason l G b0 q1.2 q1.1 q2 e2) (rcv hK hV (kd_lt z_0 (by decide)) (cel_0 z_0) rfl) q_626 q_628 q_21 q_93 q_629 dk_X9_keepsReason (rmx_ok (by decide) (by decide)) hl.1 rfl (Nat.le_of_ble_eq_true rfl) dX9_tide_6 ⟨Nat.zero_le _, Nat.zero_le _⟩) hS (fun H locs hV hS => ?_)
  refine lv_if_eq (tgt := 22) hx hb dX9_tide_9 (by decide) (fun b_3 => ?_) (fun b_3 => ?_)
  · have hr := it b_3 hr
    refine lv_aload_n hx hb dX9_tide_22 rfl (lv_at hl 0 rfl) ?_
    refine g_X9_4 C hV q_343 dX9_tide_23 ?_
    refine lv_aload_n hx hb dX9_tide_26 rfl (lv_at hl 0 rfl) ?_
    refine g_X9_0 C hV q_339 dX9_tide_27 ?_
    obtain ⟨q4, e4, hr⟩ := ob hr
    refine cal_v (run_VN (As := [.ref (b0 + 1)]) (rest := []) C hV hS (c_X1_push l G b0 q2.2 1 z_1 q4 e4) (rcv hK hV (kd_lt z_52 (by decide)) (cel_8 z_52) rfl) q_650 q_652 q_23 q_98 q_653 dk_X1_push (rmx_ok (by decide) (by decide)) hl.1 rfl (Nat.le_of_ble_eq_true rfl) dX9_tide_30 ⟨Nat.zero_le _, Nat.zero_le _⟩) hS (fun H locs hV hS => ?_)
    refine lv_aload_n hx hb dX9_tide_33 rfl (lv_at hl 0 rfl) ?_
    refine g_X9_0 C hV q_339 dX9_tide_34 ?_
    refine lv_iload_n hx hb dX9_tide_37 rfl (lv_at hl 1 rfl) ?_
    refine pn_X8_5 (k := 1) (x := x1) C hV hS z_1 q_219 dX9_tide_38 (fun H locs hV hS => ?_)
    refine lv_aload_n hx hb dX9_tide_41 rfl (lv_at hl 0 rfl) ?_
    refine g_X9_0 C hV q_339 dX9_tide_42 ?_
    obtain ⟨q5, e5, hr⟩ := ob hr
    refine cal_i (run_VN (As := []) (rest := []) C hV hS (c_X8_countReadable l G b0 (up q4 1 5 x1) 1 z_1 q5 e5) (rcv hK hV (kd_lt z_1 (by decide)) (cel_1 z_1) rfl) q_781 q_783 q_41 q_94 q_784 dk_X8_countReadable (rmx_ok (by decide) (by decide)) hl.1 rfl (Nat.le_of_ble_eq_true rfl) dX9_tide_45 ⟨Nat.zero_le _, Nat.zero_le _⟩) hS (fun H locs hV hS => ?_)
    rw [← Option.some.inj hr]
    exact fin_ix C hV hS rfl dX9_tide_48
  · have hr := ie b_3 hr
    rw [← Option.some.inj hr]
    exact th_0 (ik := 76) (is := 148) (ic := 80) C hfl ht hV hS hl.1 q_634 (st_6 hK) q_644 dX9_tide_12 dX9_tide_15 dX9_tide_16 dX9_tide_18 dX9_tide_21 (Nat.le_of_ble_eq_true rfl) (Nat.le_of_ble_eq_true rfl)
set_option maxHeartbeats 4000000 in
set_option maxRecDepth 100000 in
theorem c_X9_reasonAgainstSink (l : Launch) (G : LG) (b0 : Nat) (V : St) (x1 : Int32) (x2 : Int32) (res : Int32 × St) (hr : f_X9_reasonAgainstSink V x1 x2 = some res) : Met l yX9_reasonAgainstSink (wy yX9_reasonAgainstSink cX9_reasonAgainstSink 4 (some .int)) (rm 2) (va_Pc [.ref (b0 + 0), .int x1, .int x2] (Iv G b0 V)) (QI G b0 res.1 res.2) 0 0 (Ab b0) := by
  refine mk_m (by decide +kernel) (Nat.le_of_ble_eq_true rfl) ?_
  intro p e s m below meth c C hV hS ls hl
  obtain ⟨args, hargs⟩ : ∃ z, z = ([.ref (b0 + 0), .int x1, .int x2] : List Value).toArray := ⟨_, rfl⟩
  rw [← hargs] at C ⊢
  obtain ⟨hx, hb, hrt, hml, hown, hts, hlocks, hK, hSv⟩ := id C
  have hl : lv_has ls 4 [(0, .ref (b0 + 0)), (1, .int x1), (2, .int x2)] := hl
  have K_23 : ∀ (V : St) (x2 : Int32), f_X9_reasonAgainstSink_b23 V x2 = some res → ∀ (H : Heap) (locs : List Loc) (ls : Array Slot), Hd G b0 V H → va_S (Ab b0) s.heap H locs → lv_has ls 4 [(0, .ref (b0 + 0)), (2, .int x2)] → W p l e (rm 2) s m args below meth c H locs 0 0 (MQ below (QI G b0 res.1 res.2) args s 0 0 (Ab b0)) (F0 m 23 ls []) := by
    intro V x2 hr H locs ls hV hS hl
    unfold f_X9_reasonAgainstSink_b23 at hr
    refine lv_aload_n hx hb dX9_reasonAgainstSink_23 rfl (lv_at hl 0 rfl) ?_
    refine lv_iconst (v := 3) hx hb dX9_reasonAgainstSink_24 (by decide) ?_
    refine lv_iload_n hx hb dX9_reasonAgainstSink_25 rfl (lv_at hl 1 rfl) ?_
    obtain ⟨q1, e1, hr⟩ := ob hr
    refine cal_i (run_V (As := [.int 3, .int x2]) (rest := []) C hV hS (c_X9_found l G b0 V 3 x2 q1 e1) (rcv hK hV (kd_lt z_0 (by decide)) (cel_0 z_0) rfl) q_612 q_614 q_19 q_93 q_615 dk_X9_found (rm_ok (by decide) (by decide)) hl.1 rfl (Nat.le_of_ble_eq_true rfl) dX9_reasonAgainstSink_26 ⟨Nat.zero_le _, Nat.zero_le _⟩) hS (fun H locs hV hS => ?_)
    rw [← Option.some.inj hr]
    exact fin_i C hV hS rfl dX9_reasonAgainstSink_29
  have K_50 : ∀ (V : St) (x2 : Int32) (y0 : Int32), f_X9_reasonAgainstSink_b50 V x2 y0 = some res → ∀ (H : Heap) (locs : List Loc) (ls : Array Slot), Hd G b0 V H → va_S (Ab b0) s.heap H locs → lv_has ls 4 [(0, .ref (b0 + 0)), (2, .int x2)] → W p l e (rm 2) s m args below meth c H locs 0 0 (MQ below (QI G b0 res.1 res.2) args s 0 0 (Ab b0)) (F0 m 50 ls [.int y0]) := by
    intro V x2 y0 hr H locs ls hV hS hl
    unfold f_X9_reasonAgainstSink_b50 at hr
    refine lv_istore_n (lv' := [(3, .int y0), (0, .ref (b0 + 0)), (2, .int x2)]) hx hb dX9_reasonAgainstSink_50 rfl hl (by decide) rfl (fun ls hl => ?_)
    refine lv_iload_n hx hb dX9_reasonAgainstSink_51 rfl (lv_at hl 0 rfl) ?_
    refine lv_if_eq (tgt := 64) hx hb dX9_reasonAgainstSink_52 (by decide) (fun b_2 => ?_) (fun b_2 => ?_)
    · have hr := it b_2 hr
      refine lv_iconst (v := 0) hx hb dX9_reasonAgainstSink_64 (by decide) ?_
      rw [← Option.some.inj hr]
      exact fin_i C hV hS rfl dX9_reasonAgainstSink_65
    · have hr := ie b_2 hr
      refine lv_aload_n hx hb dX9_reasonAgainstSink_55 rfl (lv_at hl 1 rfl) ?_
      refine lv_iconst (v := 4) hx hb dX9_reasonAgainstSink_56 (by decide) ?_
      refine lv_iload_n hx hb dX9_reasonAgainstSink_57 rfl (lv_at hl 2 rfl) ?_
      obtain ⟨q3, e3, hr⟩ := ob hr
      refine cal_i (run_V (As := [.int 4, .int x2]) (rest := []) C hV hS (c_X9_found l G b0 V 4 x2 q3 e3) (rcv hK hV (kd_lt z_0 (by decide)) (cel_0 z_0) rfl) q_612 q_614 q_19 q_93 q_615 dk_X9_found (rm_ok (by decide) (by decide)) hl.1 rfl (Nat.le_of_ble_eq_true rfl) dX9_reasonAgainstSink_58 ⟨Nat.zero_le _, Nat.zero_le _⟩) hS (fun H locs hV hS => ?_)
      refine lv_goto (tgt := 65) hx hb dX9_reasonAgainstSink_61 (by decide) ?_
      rw [← Option.some.inj hr]
      exact fin_i C hV hS rfl dX9_reasonAgainstSink_65
  unfold f_X9_reasonAgainstSink at hr
  refine lv_iload_n hx hb dX9_reasonAgainstSink_0 rfl (lv_at hl 1 rfl) ?_
  obtain ⟨q4, e4, hr⟩ := ob hr
  refine cal_i (run_S (As := [.int x1]) (rest := []) C hV hS (c_X9_isNet l G b0 V x1 q4 e4) q_467 q_468 q_93 q_469 dk_X9_isNet (rm_ok (by decide) (by decide)) hl.1 rfl (Nat.le_of_ble_eq_true rfl) dX9_reasonAgainstSink_1 ⟨Nat.zero_le _, Nat.zero_le _⟩) hS (fun H locs hV hS => ?_)
  refine lv_if_ne (tgt := 14) hx hb dX9_reasonAgainstSink_4 (by decide) (fun b_5 => ?_) (fun b_5 => ?_)
  · have hr := ie b_5 hr
    refine lv_iload_n hx hb dX9_reasonAgainstSink_14 rfl (lv_at hl 2 rfl) ?_
    refine lv_if_lt (tgt := 23) hx hb dX9_reasonAgainstSink_15 (by decide) (fun b_6 => ?_) (fun b_6 => ?_)
    · have hr := it b_6 hr
      exact K_23 _ x2 hr _ _ ls hV hS (lv_sub hl [0, 2] rfl)
    · have hr := ie b_6 hr
      refine lv_iload_n hx hb dX9_reasonAgainstSink_18 rfl (lv_at hl 2 rfl) ?_
      refine lv_iconst (v := 4) hx hb dX9_reasonAgainstSink_19 (by decide) ?_
      refine lv_icmp_le (tgt := 30) hx hb dX9_reasonAgainstSink_20 (by decide) (fun b_7 => ?_) (fun b_7 => ?_)
      · have hr := it b_7 hr
        refine lv_aload_n hx hb dX9_reasonAgainstSink_30 rfl (lv_at hl 0 rfl) ?_
        refine g_X9_0 C hV q_339 dX9_reasonAgainstSink_31 ?_
        refine lv_iload_n hx hb dX9_reasonAgainstSink_34 rfl (lv_at hl 1 rfl) ?_
        obtain ⟨q8, e8, hr⟩ := ob hr
        refine cal_r (run_VN (As := [.int x1]) (rest := []) C hV hS (c_X8_netNumbered l G b0 V 1 z_1 x1 q8 e8) (rcv hK hV (kd_lt z_1 (by decide)) (cel_1 z_1) rfl) q_483 q_485 q_1 q_94 q_486 dk_X8_netNumbered (rm_ok (by decide) (by decide)) hl.1 rfl (Nat.le_of_ble_eq_true rfl) dX9_reasonAgainstSink_35 ⟨Nat.zero_le _, Nat.zero_le _⟩) hS (fun H locs hV hS => ?_)
        refine gn_X3_4 (k := q8) C hV (kr_X8_netNumbered z_1 e8) q_161 dX9_reasonAgainstSink_38 ?_
        refine lv_iload_n hx hb dX9_reasonAgainstSink_41 rfl (lv_at hl 2 rfl) ?_
        refine lv_icmp_ne (tgt := 49) hx hb dX9_reasonAgainstSink_42 (by decide) (fun b_9 => ?_) (fun b_9 => ?_)
        · have hr := ie b_9 hr
          refine lv_iconst (v := 0) hx hb dX9_reasonAgainstSink_49 (by decide) ?_
          exact K_50 _ x2 0 hr _ _ ls hV hS (lv_sub hl [0, 2] rfl)
        · have hr := it b_9 hr
          refine lv_iconst (v := 1) hx hb dX9_reasonAgainstSink_45 (by decide) ?_
          refine lv_goto (tgt := 50) hx hb dX9_reasonAgainstSink_46 (by decide) ?_
          exact K_50 _ x2 1 hr _ _ ls hV hS (lv_sub hl [0, 2] rfl)
      · have hr := ie b_7 hr
        exact K_23 _ x2 hr _ _ ls hV hS (lv_sub hl [0, 2] rfl)
  · have hr := it b_5 hr
    refine lv_aload_n hx hb dX9_reasonAgainstSink_7 rfl (lv_at hl 0 rfl) ?_
    refine lv_iconst (v := 2) hx hb dX9_reasonAgainstSink_8 (by decide) ?_
    refine lv_iload_n hx hb dX9_reasonAgainstSink_9 rfl (lv_at hl 1 rfl) ?_
    obtain ⟨q10, e10, hr⟩ := ob hr
    refine cal_i (run_V (As := [.int 2, .int x1]) (rest := []) C hV hS (c_X9_found l G b0 V 2 x1 q10 e10) (rcv hK hV (kd_lt z_0 (by decide)) (cel_0 z_0) rfl) q_612 q_614 q_19 q_93 q_615 dk_X9_found (rm_ok (by decide) (by decide)) hl.1 rfl (Nat.le_of_ble_eq_true rfl) dX9_reasonAgainstSink_10 ⟨Nat.zero_le _, Nat.zero_le _⟩) hS (fun H locs hV hS => ?_)
    rw [← Option.some.inj hr]
    exact fin_i C hV hS rfl dX9_reasonAgainstSink_13
set_option maxHeartbeats 4000000 in
set_option maxRecDepth 100000 in
theorem c_X9_sink (l : Launch) (hfl : l.stackTraces = false) (G : LG) (b0 : Nat) (V : St) (x1 : Int32) (x2 : Int32) (res : (Except Nat Int32) × St) (hr : f_X9_sink V x1 x2 = some res) : vx_Met l yX9_sink (wy yX9_sink cX9_sink 3 (some .int)) (rmx 6) (va_Pc [.ref (b0 + 0), .int x1, .int x2] (Iv G b0 V)) (QIx G b0 res.1 res.2) (XX G b0 (xe res.1) res.2) 1 6 (Ab b0) := by
  refine mk_x (by decide +kernel) (Nat.le_of_ble_eq_true rfl) ?_
  intro p e s m below meth c C ht hV hS ls hl
  obtain ⟨args, hargs⟩ : ∃ z, z = ([.ref (b0 + 0), .int x1, .int x2] : List Value).toArray := ⟨_, rfl⟩
  rw [← hargs] at C ⊢
  obtain ⟨hx, hb, hrt, hml, hown, hts, hlocks, hK, hSv⟩ := id C
  have hl : lv_has ls 3 [(0, .ref (b0 + 0)), (1, .int x1), (2, .int x2)] := hl
  unfold f_X9_sink at hr
  refine lv_aload_n hx hb dX9_sink_0 rfl (lv_at hl 0 rfl) ?_
  refine lv_aload_n hx hb dX9_sink_1 rfl (lv_at hl 0 rfl) ?_
  refine lv_iload_n hx hb dX9_sink_2 rfl (lv_at hl 1 rfl) ?_
  refine lv_iload_n hx hb dX9_sink_3 rfl (lv_at hl 2 rfl) ?_
  obtain ⟨q1, e1, hr⟩ := ob hr
  refine cal_i (run_V (As := [.int x1, .int x2]) (rest := [.ref (b0 + 0)]) C hV hS (c_X9_reasonAgainstSink l G b0 V x1 x2 q1 e1) (rcv hK hV (kd_lt z_0 (by decide)) (cel_0 z_0) rfl) q_801 q_803 q_44 q_93 q_804 dk_X9_reasonAgainstSink (rmx_ok (by decide) (by decide)) hl.1 rfl (Nat.le_of_ble_eq_true rfl) dX9_sink_4 ⟨Nat.zero_le _, Nat.zero_le _⟩) hS (fun H locs hV hS => ?_)
  obtain ⟨q2, e2, hr⟩ := ob hr
  refine cal_i (run_V (As := [.int q1.1]) (rest := []) C hV hS (c_X9_keepsReason l G b0 q1.2 q1.1 q2 e2) (rcv hK hV (kd_lt z_0 (by decide)) (cel_0 z_0) rfl) q_626 q_628 q_21 q_93 q_629 dk_X9_keepsReason (rmx_ok (by decide) (by decide)) hl.1 rfl (Nat.le_of_ble_eq_true rfl) dX9_sink_7 ⟨Nat.zero_le _, Nat.zero_le _⟩) hS (fun H locs hV hS => ?_)
  refine lv_if_eq (tgt := 23) hx hb dX9_sink_10 (by decide) (fun b_3 => ?_) (fun b_3 => ?_)
  · have hr := it b_3 hr
    refine lv_aload_n hx hb dX9_sink_23 rfl (lv_at hl 0 rfl) ?_
    refine g_X9_4 C hV q_343 dX9_sink_24 ?_
    refine lv_aload_n hx hb dX9_sink_27 rfl (lv_at hl 0 rfl) ?_
    refine g_X9_0 C hV q_339 dX9_sink_28 ?_
    obtain ⟨q4, e4, hr⟩ := ob hr
    refine cal_v (run_VN (As := [.ref (b0 + 1)]) (rest := []) C hV hS (c_X1_push l G b0 q2.2 1 z_1 q4 e4) (rcv hK hV (kd_lt z_52 (by decide)) (cel_8 z_52) rfl) q_650 q_652 q_23 q_98 q_653 dk_X1_push (rmx_ok (by decide) (by decide)) hl.1 rfl (Nat.le_of_ble_eq_true rfl) dX9_sink_31 ⟨Nat.zero_le _, Nat.zero_le _⟩) hS (fun H locs hV hS => ?_)
    refine lv_aload_n hx hb dX9_sink_34 rfl (lv_at hl 0 rfl) ?_
    refine g_X9_0 C hV q_339 dX9_sink_35 ?_
    refine lv_iload_n hx hb dX9_sink_38 rfl (lv_at hl 1 rfl) ?_
    obtain ⟨q5, e5, hr⟩ := ob hr
    refine cal_r (run_VN (As := [.int x1]) (rest := []) C hV hS (c_X8_netNumbered l G b0 q4 1 z_1 x1 q5 e5) (rcv hK hV (kd_lt z_1 (by decide)) (cel_1 z_1) rfl) q_483 q_485 q_1 q_94 q_486 dk_X8_netNumbered (rmx_ok (by decide) (by decide)) hl.1 rfl (Nat.le_of_ble_eq_true rfl) dX9_sink_39 ⟨Nat.zero_le _, Nat.zero_le _⟩) hS (fun H locs hV hS => ?_)
    refine lv_iload_n hx hb dX9_sink_42 rfl (lv_at hl 2 rfl) ?_
    refine pn_X3_4 (k := q5) (x := x2) C hV hS (kr_X8_netNumbered z_1 e5) q_161 dX9_sink_43 (fun H locs hV hS => ?_)
    refine lv_aload_n hx hb dX9_sink_46 rfl (lv_at hl 0 rfl) ?_
    refine g_X9_0 C hV q_339 dX9_sink_47 ?_
    refine lv_iload_n hx hb dX9_sink_50 rfl (lv_at hl 1 rfl) ?_
    obtain ⟨q6, e6, hr⟩ := ob hr
    refine cal_i (run_VN (As := [.int x1]) (rest := []) C hV hS (c_X8_linesUnderWater l G b0 (up q4 q5 4 x2) 1 z_1 x1 q6 e6) (rcv hK hV (kd_lt z_1 (by decide)) (cel_1 z_1) rfl) q_806 q_791 q_43 q_94 q_792 dk_X8_linesUnderWater (rmx_ok (by decide) (by decide)) hl.1 rfl (Nat.le_of_ble_eq_true rfl) dX9_sink_51 ⟨Nat.zero_le _, Nat.zero_le _⟩) hS (fun H locs hV hS => ?_)
    rw [← Option.some.inj hr]
    exact fin_ix C hV hS rfl dX9_sink_54
  · have hr := ie b_3 hr
    rw [← Option.some.inj hr]
    exact th_0 (ik := 76) (is := 160) (ic := 80) C hfl ht hV hS hl.1 q_634 (st_7 hK) q_644 dX9_sink_13 dX9_sink_16 dX9_sink_17 dX9_sink_19 dX9_sink_22 (Nat.le_of_ble_eq_true rfl) (Nat.le_of_ble_eq_true rfl)
set_option maxHeartbeats 4000000 in
set_option maxRecDepth 100000 in
theorem c_X9_reasonAgainstNote (l : Launch) (G : LG) (b0 : Nat) (V : St) (x1 : Int32) (x2 : Int32) (res : Int32 × St) (hr : f_X9_reasonAgainstNote V x1 x2 = some res) : Met l yX9_reasonAgainstNote (wy yX9_reasonAgainstNote cX9_reasonAgainstNote 5 (some .int)) (rm 3) (va_Pc [.ref (b0 + 0), .int x1, .int x2] (Iv G b0 V)) (QI G b0 res.1 res.2) 0 0 (Ab b0) := by
  refine mk_m (by decide +kernel) (Nat.le_of_ble_eq_true rfl) ?_
  intro p e s m below meth c C hV hS ls hl
  obtain ⟨args, hargs⟩ : ∃ z, z = ([.ref (b0 + 0), .int x1, .int x2] : List Value).toArray := ⟨_, rfl⟩
  rw [← hargs] at C ⊢
  obtain ⟨hx, hb, hrt, hml, hown, hts, hlocks, hK, hSv⟩ := id C
  have hl : lv_has ls 5 [(0, .ref (b0 + 0)), (1, .int x1), (2, .int x2)] := hl
  unfold f_X9_reasonAgainstNote at hr
  refine lv_iload_n hx hb dX9_reasonAgainstNote_0 rfl (lv_at hl 1 rfl) ?_
  obtain ⟨q1, e1, hr⟩ := ob hr
  refine cal_i (run_S (As := [.int x1]) (rest := []) C hV hS (c_X9_isNet l G b0 V x1 q1 e1) q_467 q_468 q_93 q_469 dk_X9_isNet (rm_ok (by decide) (by decide)) hl.1 rfl (Nat.le_of_ble_eq_true rfl) dX9_reasonAgainstNote_1 ⟨Nat.zero_le _, Nat.zero_le _⟩) hS (fun H locs hV hS => ?_)
  refine lv_if_ne (tgt := 14) hx hb dX9_reasonAgainstNote_4 (by decide) (fun b_2 => ?_) (fun b_2 => ?_)
  · have hr := ie b_2 hr
    refine lv_iload_n hx hb dX9_reasonAgainstNote_14 rfl (lv_at hl 2 rfl) ?_
    obtain ⟨q3, e3, hr⟩ := ob hr
    refine cal_i (run_S (As := [.int x2]) (rest := []) C hV hS (c_X9_isPlace l G b0 V x2 q3 e3) q_616 q_617 q_93 q_618 dk_X9_isPlace (rm_ok (by decide) (by decide)) hl.1 rfl (Nat.le_of_ble_eq_true rfl) dX9_reasonAgainstNote_15 ⟨Nat.zero_le _, Nat.zero_le _⟩) hS (fun H locs hV hS => ?_)
    refine lv_if_ne (tgt := 28) hx hb dX9_reasonAgainstNote_18 (by decide) (fun b_4 => ?_) (fun b_4 => ?_)
    · have hr := ie b_4 hr
      refine lv_aload_n hx hb dX9_reasonAgainstNote_28 rfl (lv_at hl 0 rfl) ?_
      refine g_X9_0 C hV q_339 dX9_reasonAgainstNote_29 ?_
      refine lv_iload_n hx hb dX9_reasonAgainstNote_32 rfl (lv_at hl 1 rfl) ?_
      obtain ⟨q5, e5, hr⟩ := ob hr
      refine cal_r (run_VN (As := [.int x1]) (rest := []) C hV hS (c_X8_netNumbered l G b0 V 1 z_1 x1 q5 e5) (rcv hK hV (kd_lt z_1 (by decide)) (cel_1 z_1) rfl) q_483 q_485 q_1 q_94 q_486 dk_X8_netNumbered (rm_ok (by decide) (by decide)) hl.1 rfl (Nat.le_of_ble_eq_true rfl) dX9_reasonAgainstNote_33 ⟨Nat.zero_le _, Nat.zero_le _⟩) hS (fun H locs hV hS => ?_)
      refine lv_iload_n hx hb dX9_reasonAgainstNote_36 rfl (lv_at hl 2 rfl) ?_
      obtain ⟨q6, e6, hr⟩ := ob hr
      refine cal_i (run_VN (As := [.int x2]) (rest := []) C hV hS (c_X3_chapterAt l G b0 V q5 (kr_X8_netNumbered z_1 e5) x2 q6 e6) (rcv hK hV (kd_lt (kr_X8_netNumbered z_1 e5) (by decide)) (cel_5 (kr_X8_netNumbered z_1 e5)) rfl) q_818 q_507 q_4 q_95 q_508 dk_X3_chapterAt (rm_ok (by decide) (by decide)) hl.1 rfl (Nat.le_of_ble_eq_true rfl) dX9_reasonAgainstNote_37 ⟨Nat.zero_le _, Nat.zero_le _⟩) hS (fun H locs hV hS => ?_)
      refine lv_istore_n (lv' := [(3, .int q6), (0, .ref (b0 + 0)), (1, .int x1), (2, .int x2)]) hx hb dX9_reasonAgainstNote_40 rfl hl (by decide) rfl (fun ls hl => ?_)
      refine lv_iload_n hx hb dX9_reasonAgainstNote_41 rfl (lv_at hl 0 rfl) ?_
      refine lv_if_ne (tgt := 53) hx hb dX9_reasonAgainstNote_42 (by decide) (fun b_7 => ?_) (fun b_7 => ?_)
      · have hr := ie b_7 hr
        refine lv_aload_n hx hb dX9_reasonAgainstNote_53 rfl (lv_at hl 1 rfl) ?_
        refine g_X9_0 C hV q_339 dX9_reasonAgainstNote_54 ?_
        refine lv_iload_n hx hb dX9_reasonAgainstNote_57 rfl (lv_at hl 2 rfl) ?_
        refine lv_iload_n hx hb dX9_reasonAgainstNote_58 rfl (lv_at hl 0 rfl) ?_
        obtain ⟨q8, e8, hr⟩ := ob hr
        refine cal_i (run_VN (As := [.int x1, .int q6]) (rest := []) C hV hS (c_X8_lowestNoteOf l G b0 V 1 z_1 x1 q6 q8 e8) (rcv hK hV (kd_lt z_1 (by decide)) (cel_1 z_1) rfl) q_819 q_821 q_46 q_94 q_822 dk_X8_lowestNoteOf (rm_ok (by decide) (by decide)) hl.1 rfl (Nat.le_of_ble_eq_true rfl) dX9_reasonAgainstNote_59 ⟨Nat.zero_le _, Nat.zero_le _⟩) hS (fun H locs hV hS => ?_)
        refine lv_istore (lv' := [(4, .int q8), (3, .int q6), (0, .ref (b0 + 0)), (1, .int x1), (2, .int x2)]) hx hb dX9_reasonAgainstNote_62 hl (by decide) rfl (fun ls hl => ?_)
        refine lv_iload hx hb dX9_reasonAgainstNote_64 (lv_at hl 0 rfl) ?_
        refine lv_iconst (v := (-1)) hx hb dX9_reasonAgainstNote_66 (by decide) ?_
        refine lv_icmp_eq (tgt := 79) hx hb dX9_reasonAgainstNote_67 (by decide) (fun b_9 => ?_) (fun b_9 => ?_)
        · have hr := it b_9 hr
          refine lv_aload_n hx hb dX9_reasonAgainstNote_79 rfl (lv_at hl 2 rfl) ?_
          refine g_X9_0 C hV q_339 dX9_reasonAgainstNote_80 ?_
          refine gn_X8_4 (k := 1) C hV z_1 q_217 dX9_reasonAgainstNote_83 ?_
          refine lv_bipush (v := 6) hx hb dX9_reasonAgainstNote_86 (by decide) ?_
          refine lv_icmp_lt (tgt := 106) hx hb dX9_reasonAgainstNote_88 (by decide) (fun b_10 => ?_) (fun b_10 => ?_)
          · have hr := it b_10 hr
            refine lv_iconst (v := 0) hx hb dX9_reasonAgainstNote_106 (by decide) ?_
            rw [← Option.some.inj hr]
            exact fin_i C hV hS rfl dX9_reasonAgainstNote_107
          · have hr := ie b_10 hr
            refine lv_aload_n hx hb dX9_reasonAgainstNote_91 rfl (lv_at hl 2 rfl) ?_
            refine lv_iconst (v := 1) hx hb dX9_reasonAgainstNote_92 (by decide) ?_
            refine lv_aload_n hx hb dX9_reasonAgainstNote_93 rfl (lv_at hl 2 rfl) ?_
            refine g_X9_0 C hV q_339 dX9_reasonAgainstNote_94 ?_
            refine gn_X8_4 (k := 1) C hV z_1 q_217 dX9_reasonAgainstNote_97 ?_
            obtain ⟨q11, e11, hr⟩ := ob hr
            refine cal_i (run_V (As := [.int 1, .int (V 1 4)]) (rest := []) C hV hS (c_X9_found l G b0 V 1 (V 1 4) q11 e11) (rcv hK hV (kd_lt z_0 (by decide)) (cel_0 z_0) rfl) q_612 q_614 q_19 q_93 q_615 dk_X9_found (rm_ok (by decide) (by decide)) hl.1 rfl (Nat.le_of_ble_eq_true rfl) dX9_reasonAgainstNote_100 ⟨Nat.zero_le _, Nat.zero_le _⟩) hS (fun H locs hV hS => ?_)
            refine lv_goto (tgt := 107) hx hb dX9_reasonAgainstNote_103 (by decide) ?_
            rw [← Option.some.inj hr]
            exact fin_i C hV hS rfl dX9_reasonAgainstNote_107
        · have hr := ie b_9 hr
          refine lv_aload_n hx hb dX9_reasonAgainstNote_70 rfl (lv_at hl 2 rfl) ?_
          refine lv_bipush (v := 8) hx hb dX9_reasonAgainstNote_71 (by decide) ?_
          refine lv_iload hx hb dX9_reasonAgainstNote_73 (lv_at hl 0 rfl) ?_
          obtain ⟨q12, e12, hr⟩ := ob hr
          refine cal_i (run_V (As := [.int 8, .int q8]) (rest := []) C hV hS (c_X9_found l G b0 V 8 q8 q12 e12) (rcv hK hV (kd_lt z_0 (by decide)) (cel_0 z_0) rfl) q_612 q_614 q_19 q_93 q_615 dk_X9_found (rm_ok (by decide) (by decide)) hl.1 rfl (Nat.le_of_ble_eq_true rfl) dX9_reasonAgainstNote_75 ⟨Nat.zero_le _, Nat.zero_le _⟩) hS (fun H locs hV hS => ?_)
          rw [← Option.some.inj hr]
          exact fin_i C hV hS rfl dX9_reasonAgainstNote_78
      · have hr := it b_7 hr
        refine lv_aload_n hx hb dX9_reasonAgainstNote_45 rfl (lv_at hl 1 rfl) ?_
        refine lv_bipush (v := 7) hx hb dX9_reasonAgainstNote_46 (by decide) ?_
        refine lv_iload_n hx hb dX9_reasonAgainstNote_48 rfl (lv_at hl 3 rfl) ?_
        obtain ⟨q13, e13, hr⟩ := ob hr
        refine cal_i (run_V (As := [.int 7, .int x2]) (rest := []) C hV hS (c_X9_found l G b0 V 7 x2 q13 e13) (rcv hK hV (kd_lt z_0 (by decide)) (cel_0 z_0) rfl) q_612 q_614 q_19 q_93 q_615 dk_X9_found (rm_ok (by decide) (by decide)) hl.1 rfl (Nat.le_of_ble_eq_true rfl) dX9_reasonAgainstNote_49 ⟨Nat.zero_le _, Nat.zero_le _⟩) hS (fun H locs hV hS => ?_)
        rw [← Option.some.inj hr]
        exact fin_i C hV hS rfl dX9_reasonAgainstNote_52
    · have hr := it b_4 hr
      refine lv_aload_n hx hb dX9_reasonAgainstNote_21 rfl (lv_at hl 0 rfl) ?_
      refine lv_iconst (v := 2) hx hb dX9_reasonAgainstNote_22 (by decide) ?_
      refine lv_iload_n hx hb dX9_reasonAgainstNote_23 rfl (lv_at hl 2 rfl) ?_
      obtain ⟨q14, e14, hr⟩ := ob hr
      refine cal_i (run_V (As := [.int 2, .int x2]) (rest := []) C hV hS (c_X9_found l G b0 V 2 x2 q14 e14) (rcv hK hV (kd_lt z_0 (by decide)) (cel_0 z_0) rfl) q_612 q_614 q_19 q_93 q_615 dk_X9_found (rm_ok (by decide) (by decide)) hl.1 rfl (Nat.le_of_ble_eq_true rfl) dX9_reasonAgainstNote_24 ⟨Nat.zero_le _, Nat.zero_le _⟩) hS (fun H locs hV hS => ?_)
      rw [← Option.some.inj hr]
      exact fin_i C hV hS rfl dX9_reasonAgainstNote_27
  · have hr := it b_2 hr
    refine lv_aload_n hx hb dX9_reasonAgainstNote_7 rfl (lv_at hl 0 rfl) ?_
    refine lv_iconst (v := 2) hx hb dX9_reasonAgainstNote_8 (by decide) ?_
    refine lv_iload_n hx hb dX9_reasonAgainstNote_9 rfl (lv_at hl 1 rfl) ?_
    obtain ⟨q15, e15, hr⟩ := ob hr
    refine cal_i (run_V (As := [.int 2, .int x1]) (rest := []) C hV hS (c_X9_found l G b0 V 2 x1 q15 e15) (rcv hK hV (kd_lt z_0 (by decide)) (cel_0 z_0) rfl) q_612 q_614 q_19 q_93 q_615 dk_X9_found (rm_ok (by decide) (by decide)) hl.1 rfl (Nat.le_of_ble_eq_true rfl) dX9_reasonAgainstNote_10 ⟨Nat.zero_le _, Nat.zero_le _⟩) hS (fun H locs hV hS => ?_)
    rw [← Option.some.inj hr]
    exact fin_i C hV hS rfl dX9_reasonAgainstNote_13
set_option maxHeartbeats 4000000 in
set_option maxRecDepth 100000 in
theorem c_X9_note (l : Launch) (hfl : l.stackTraces = false) (G : LG) (b0 : Nat) (V : St) (x1 : Int32) (x2 : Int32) (res : (Except Nat Int32) × St) (hr : f_X9_note V x1 x2 = some res) : vx_Met l yX9_note (wy yX9_note cX9_note 3 (some .int)) (rmx 6) (va_Pc [.ref (b0 + 0), .int x1, .int x2] (Iv G b0 V)) (QIx G b0 res.1 res.2) (XX G b0 (xe res.1) res.2) 1 6 (Ab b0) := by
  refine mk_x (by decide +kernel) (Nat.le_of_ble_eq_true rfl) ?_
  intro p e s m below meth c C ht hV hS ls hl
  obtain ⟨args, hargs⟩ : ∃ z, z = ([.ref (b0 + 0), .int x1, .int x2] : List Value).toArray := ⟨_, rfl⟩
  rw [← hargs] at C ⊢
  obtain ⟨hx, hb, hrt, hml, hown, hts, hlocks, hK, hSv⟩ := id C
  have hl : lv_has ls 3 [(0, .ref (b0 + 0)), (1, .int x1), (2, .int x2)] := hl
  unfold f_X9_note at hr
  refine lv_aload_n hx hb dX9_note_0 rfl (lv_at hl 0 rfl) ?_
  refine lv_aload_n hx hb dX9_note_1 rfl (lv_at hl 0 rfl) ?_
  refine lv_iload_n hx hb dX9_note_2 rfl (lv_at hl 1 rfl) ?_
  refine lv_iload_n hx hb dX9_note_3 rfl (lv_at hl 2 rfl) ?_
  obtain ⟨q1, e1, hr⟩ := ob hr
  refine cal_i (run_V (As := [.int x1, .int x2]) (rest := [.ref (b0 + 0)]) C hV hS (c_X9_reasonAgainstNote l G b0 V x1 x2 q1 e1) (rcv hK hV (kd_lt z_0 (by decide)) (cel_0 z_0) rfl) q_814 q_816 q_45 q_93 q_817 dk_X9_reasonAgainstNote (rmx_ok (by decide) (by decide)) hl.1 rfl (Nat.le_of_ble_eq_true rfl) dX9_note_4 ⟨Nat.zero_le _, Nat.zero_le _⟩) hS (fun H locs hV hS => ?_)
  obtain ⟨q2, e2, hr⟩ := ob hr
  refine cal_i (run_V (As := [.int q1.1]) (rest := []) C hV hS (c_X9_keepsReason l G b0 q1.2 q1.1 q2 e2) (rcv hK hV (kd_lt z_0 (by decide)) (cel_0 z_0) rfl) q_626 q_628 q_21 q_93 q_629 dk_X9_keepsReason (rmx_ok (by decide) (by decide)) hl.1 rfl (Nat.le_of_ble_eq_true rfl) dX9_note_7 ⟨Nat.zero_le _, Nat.zero_le _⟩) hS (fun H locs hV hS => ?_)
  refine lv_if_eq (tgt := 23) hx hb dX9_note_10 (by decide) (fun b_3 => ?_) (fun b_3 => ?_)
  · have hr := it b_3 hr
    refine lv_aload_n hx hb dX9_note_23 rfl (lv_at hl 0 rfl) ?_
    refine g_X9_4 C hV q_343 dX9_note_24 ?_
    refine lv_aload_n hx hb dX9_note_27 rfl (lv_at hl 0 rfl) ?_
    refine g_X9_0 C hV q_339 dX9_note_28 ?_
    obtain ⟨q4, e4, hr⟩ := ob hr
    refine cal_v (run_VN (As := [.ref (b0 + 1)]) (rest := []) C hV hS (c_X1_push l G b0 q2.2 1 z_1 q4 e4) (rcv hK hV (kd_lt z_52 (by decide)) (cel_8 z_52) rfl) q_650 q_652 q_23 q_98 q_653 dk_X1_push (rmx_ok (by decide) (by decide)) hl.1 rfl (Nat.le_of_ble_eq_true rfl) dX9_note_31 ⟨Nat.zero_le _, Nat.zero_le _⟩) hS (fun H locs hV hS => ?_)
    refine lv_aload_n hx hb dX9_note_34 rfl (lv_at hl 0 rfl) ?_
    refine g_X9_0 C hV q_339 dX9_note_35 ?_
    refine lv_iload_n hx hb dX9_note_38 rfl (lv_at hl 1 rfl) ?_
    refine lv_iload_n hx hb dX9_note_39 rfl (lv_at hl 2 rfl) ?_
    obtain ⟨q5, e5, hr⟩ := ob hr
    refine cal_v (run_VN (As := [.int x1, .int x2]) (rest := []) C hV hS (c_X8_addNote l G b0 q4 1 z_1 x1 x2 q5 e5) (rcv hK hV (kd_lt z_1 (by decide)) (cel_1 z_1) rfl) q_824 q_826 q_47 q_94 q_827 dk_X8_addNote (rmx_ok (by decide) (by decide)) hl.1 rfl (Nat.le_of_ble_eq_true rfl) dX9_note_40 ⟨Nat.zero_le _, Nat.zero_le _⟩) hS (fun H locs hV hS => ?_)
    refine lv_aload_n hx hb dX9_note_43 rfl (lv_at hl 0 rfl) ?_
    refine g_X9_0 C hV q_339 dX9_note_44 ?_
    refine gn_X8_4 (k := 1) C hV z_1 q_217 dX9_note_47 ?_
    refine lv_iconst (v := 1) hx hb dX9_note_50 (by decide) ?_
    refine lv_isub hx hb dX9_note_51 ?_
    rw [← Option.some.inj hr]
    exact fin_ix C hV hS rfl dX9_note_52
  · have hr := ie b_3 hr
    rw [← Option.some.inj hr]
    exact th_0 (ik := 76) (is := 171) (ic := 80) C hfl ht hV hS hl.1 q_634 (st_8 hK) q_644 dX9_note_13 dX9_note_16 dX9_note_17 dX9_note_19 dX9_note_22 (Nat.le_of_ble_eq_true rfl) (Nat.le_of_ble_eq_true rfl)
set_option maxHeartbeats 4000000 in
set_option maxRecDepth 100000 in
theorem c_X9_reasonAgainstDrop (l : Launch) (G : LG) (b0 : Nat) (V : St) (x1 : Int32) (res : Int32 × St) (hr : f_X9_reasonAgainstDrop V x1 = some res) : Met l yX9_reasonAgainstDrop (wy yX9_reasonAgainstDrop cX9_reasonAgainstDrop 2 (some .int)) (rm 1) (va_Pc [.ref (b0 + 0), .int x1] (Iv G b0 V)) (QI G b0 res.1 res.2) 0 0 (Ab b0) := by
  refine mk_m (by decide +kernel) (Nat.le_of_ble_eq_true rfl) ?_
  intro p e s m below meth c C hV hS ls hl
  obtain ⟨args, hargs⟩ : ∃ z, z = ([.ref (b0 + 0), .int x1] : List Value).toArray := ⟨_, rfl⟩
  rw [← hargs] at C ⊢
  obtain ⟨hx, hb, hrt, hml, hown, hts, hlocks, hK, hSv⟩ := id C
  have hl : lv_has ls 2 [(0, .ref (b0 + 0)), (1, .int x1)] := hl
  unfold f_X9_reasonAgainstDrop at hr
  refine lv_aload_n hx hb dX9_reasonAgainstDrop_0 rfl (lv_at hl 0 rfl) ?_
  refine g_X9_0 C hV q_339 dX9_reasonAgainstDrop_1 ?_
  refine lv_iload_n hx hb dX9_reasonAgainstDrop_4 rfl (lv_at hl 1 rfl) ?_
  obtain ⟨q1, e1, hr⟩ := ob hr
  refine cal_i (run_VN (As := [.int x1]) (rest := []) C hV hS (c_X8_hasNote l G b0 V 1 z_1 x1 q1 e1) (rcv hK hV (kd_lt z_1 (by decide)) (cel_1 z_1) rfl) q_839 q_841 q_49 q_94 q_842 dk_X8_hasNote (rm_ok (by decide) (by decide)) hl.1 rfl (Nat.le_of_ble_eq_true rfl) dX9_reasonAgainstDrop_5 ⟨Nat.zero_le _, Nat.zero_le _⟩) hS (fun H locs hV hS => ?_)
  refine lv_if_eq (tgt := 15) hx hb dX9_reasonAgainstDrop_8 (by decide) (fun b_2 => ?_) (fun b_2 => ?_)
  · have hr := it b_2 hr
    refine lv_aload_n hx hb dX9_reasonAgainstDrop_15 rfl (lv_at hl 0 rfl) ?_
    refine lv_iconst (v := 2) hx hb dX9_reasonAgainstDrop_16 (by decide) ?_
    refine lv_iload_n hx hb dX9_reasonAgainstDrop_17 rfl (lv_at hl 1 rfl) ?_
    obtain ⟨q3, e3, hr⟩ := ob hr
    refine cal_i (run_V (As := [.int 2, .int x1]) (rest := []) C hV hS (c_X9_found l G b0 V 2 x1 q3 e3) (rcv hK hV (kd_lt z_0 (by decide)) (cel_0 z_0) rfl) q_612 q_614 q_19 q_93 q_615 dk_X9_found (rm_ok (by decide) (by decide)) hl.1 rfl (Nat.le_of_ble_eq_true rfl) dX9_reasonAgainstDrop_18 ⟨Nat.zero_le _, Nat.zero_le _⟩) hS (fun H locs hV hS => ?_)
    rw [← Option.some.inj hr]
    exact fin_i C hV hS rfl dX9_reasonAgainstDrop_21
  · have hr := ie b_2 hr
    refine lv_iconst (v := 0) hx hb dX9_reasonAgainstDrop_11 (by decide) ?_
    refine lv_goto (tgt := 21) hx hb dX9_reasonAgainstDrop_12 (by decide) ?_
    rw [← Option.some.inj hr]
    exact fin_i C hV hS rfl dX9_reasonAgainstDrop_21
set_option maxHeartbeats 4000000 in
set_option maxRecDepth 100000 in
theorem c_X9_drop (l : Launch) (hfl : l.stackTraces = false) (G : LG) (b0 : Nat) (V : St) (x1 : Int32) (res : (Except Nat Int32) × St) (hr : f_X9_drop V x1 = some res) : vx_Met l yX9_drop (wy yX9_drop cX9_drop 2 (some .int)) (rmx 6) (va_Pc [.ref (b0 + 0), .int x1] (Iv G b0 V)) (QIx G b0 res.1 res.2) (XX G b0 (xe res.1) res.2) 1 6 (Ab b0) := by
  refine mk_x (by decide +kernel) (Nat.le_of_ble_eq_true rfl) ?_
  intro p e s m below meth c C ht hV hS ls hl
  obtain ⟨args, hargs⟩ : ∃ z, z = ([.ref (b0 + 0), .int x1] : List Value).toArray := ⟨_, rfl⟩
  rw [← hargs] at C ⊢
  obtain ⟨hx, hb, hrt, hml, hown, hts, hlocks, hK, hSv⟩ := id C
  have hl : lv_has ls 2 [(0, .ref (b0 + 0)), (1, .int x1)] := hl
  unfold f_X9_drop at hr
  refine lv_aload_n hx hb dX9_drop_0 rfl (lv_at hl 0 rfl) ?_
  refine lv_aload_n hx hb dX9_drop_1 rfl (lv_at hl 0 rfl) ?_
  refine lv_iload_n hx hb dX9_drop_2 rfl (lv_at hl 1 rfl) ?_
  obtain ⟨q1, e1, hr⟩ := ob hr
  refine cal_i (run_V (As := [.int x1]) (rest := [.ref (b0 + 0)]) C hV hS (c_X9_reasonAgainstDrop l G b0 V x1 q1 e1) (rcv hK hV (kd_lt z_0 (by decide)) (cel_0 z_0) rfl) q_835 q_837 q_48 q_93 q_838 dk_X9_reasonAgainstDrop (rmx_ok (by decide) (by decide)) hl.1 rfl (Nat.le_of_ble_eq_true rfl) dX9_drop_3 ⟨Nat.zero_le _, Nat.zero_le _⟩) hS (fun H locs hV hS => ?_)
  obtain ⟨q2, e2, hr⟩ := ob hr
  refine cal_i (run_V (As := [.int q1.1]) (rest := []) C hV hS (c_X9_keepsReason l G b0 q1.2 q1.1 q2 e2) (rcv hK hV (kd_lt z_0 (by decide)) (cel_0 z_0) rfl) q_626 q_628 q_21 q_93 q_629 dk_X9_keepsReason (rmx_ok (by decide) (by decide)) hl.1 rfl (Nat.le_of_ble_eq_true rfl) dX9_drop_6 ⟨Nat.zero_le _, Nat.zero_le _⟩) hS (fun H locs hV hS => ?_)
  refine lv_if_eq (tgt := 22) hx hb dX9_drop_9 (by decide) (fun b_3 => ?_) (fun b_3 => ?_)
  · have hr := it b_3 hr
    refine lv_aload_n hx hb dX9_drop_22 rfl (lv_at hl 0 rfl) ?_
    refine g_X9_4 C hV q_343 dX9_drop_23 ?_
    refine lv_aload_n hx hb dX9_drop_26 rfl (lv_at hl 0 rfl) ?_
    refine g_X9_0 C hV q_339 dX9_drop_27 ?_
    obtain ⟨q4, e4, hr⟩ := ob hr
    refine cal_v (run_VN (As := [.ref (b0 + 1)]) (rest := []) C hV hS (c_X1_push l G b0 q2.2 1 z_1 q4 e4) (rcv hK hV (kd_lt z_52 (by decide)) (cel_8 z_52) rfl) q_650 q_652 q_23 q_98 q_653 dk_X1_push (rmx_ok (by decide) (by decide)) hl.1 rfl (Nat.le_of_ble_eq_true rfl) dX9_drop_30 ⟨Nat.zero_le _, Nat.zero_le _⟩) hS (fun H locs hV hS => ?_)
    refine lv_aload_n hx hb dX9_drop_33 rfl (lv_at hl 0 rfl) ?_
    refine g_X9_0 C hV q_339 dX9_drop_34 ?_
    refine lv_iload_n hx hb dX9_drop_37 rfl (lv_at hl 1 rfl) ?_
    obtain ⟨q5, e5, hr⟩ := ob hr
    refine cal_v (run_VN (As := [.int x1]) (rest := []) C hV hS (c_X8_removeNote l G b0 q4 1 z_1 x1 q5 e5) (rcv hK hV (kd_lt z_1 (by decide)) (cel_1 z_1) rfl) q_844 q_846 q_50 q_94 q_847 dk_X8_removeNote (rmx_ok (by decide) (by decide)) hl.1 rfl (Nat.le_of_ble_eq_true rfl) dX9_drop_38 ⟨Nat.zero_le _, Nat.zero_le _⟩) hS (fun H locs hV hS => ?_)
    refine lv_aload_n hx hb dX9_drop_41 rfl (lv_at hl 0 rfl) ?_
    refine g_X9_0 C hV q_339 dX9_drop_42 ?_
    refine gn_X8_4 (k := 1) C hV z_1 q_217 dX9_drop_45 ?_
    rw [← Option.some.inj hr]
    exact fin_ix C hV hS rfl dX9_drop_48
  · have hr := ie b_3 hr
    rw [← Option.some.inj hr]
    exact th_0 (ik := 76) (is := 182) (ic := 80) C hfl ht hV hS hl.1 q_634 (st_9 hK) q_644 dX9_drop_12 dX9_drop_15 dX9_drop_16 dX9_drop_18 dX9_drop_21 (Nat.le_of_ble_eq_true rfl) (Nat.le_of_ble_eq_true rfl)
set_option maxHeartbeats 4000000 in
set_option maxRecDepth 100000 in
theorem c_X9_kindOf (l : Launch) (hfl : l.stackTraces = false) (G : LG) (b0 : Nat) (V : St) (x1 : Int32) (x2 : Int32) (res : Except Nat Int32) (hr : f_X9_kindOf V x1 x2 = some res) : vx_Met l yX9_kindOf (wy yX9_kindOf cX9_kindOf 3 (some .int)) (rmx 6) (va_Pc [.ref (b0 + 0), .int x1, .int x2] (Iv G b0 V)) (QIx G b0 res V) (XX G b0 (xe res) V) 1 6 (Ab b0) := by
  refine mk_x (by decide +kernel) (Nat.le_of_ble_eq_true rfl) ?_
  intro p e s m below meth c C ht hV hS ls hl
  obtain ⟨args, hargs⟩ : ∃ z, z = ([.ref (b0 + 0), .int x1, .int x2] : List Value).toArray := ⟨_, rfl⟩
  rw [← hargs] at C ⊢
  obtain ⟨hx, hb, hrt, hml, hown, hts, hlocks, hK, hSv⟩ := id C
  have hl : lv_has ls 3 [(0, .ref (b0 + 0)), (1, .int x1), (2, .int x2)] := hl
  have K_14 : f_X9_kindOf_b14 V = some res → ∀ (H : Heap) (locs : List Loc) (ls : Array Slot), Hd G b0 V H → va_S (Ab b0) s.heap H locs → lv_has ls 3 [] → W p l e (rmx 6) s m args below meth c H locs 0 0 (vx_MQ below (QIx G b0 res V) (XX G b0 (xe res) V) args s 1 6 (Ab b0)) (F0 m 14 ls []) := by
    intro  hr H locs ls hV hS hl
    unfold f_X9_kindOf_b14 at hr
    rw [← Option.some.inj hr]
    exact th_1 (ik := 193) (is := 195) (ic := 197) C hfl ht hV hS hl.1 q_470 (st_30 hK) q_480 dX9_kindOf_14 dX9_kindOf_17 dX9_kindOf_18 dX9_kindOf_20 dX9_kindOf_23 (Nat.le_of_ble_eq_true rfl) (Nat.le_of_ble_eq_true rfl)
  unfold f_X9_kindOf at hr
  refine lv_iload_n hx hb dX9_kindOf_0 rfl (lv_at hl 1 rfl) ?_
  obtain ⟨q1, e1, hr⟩ := ob hr
  refine cal_i (run_S (As := [.int x1]) (rest := []) C hV hS (c_X9_isNet l G b0 V x1 q1 e1) q_467 q_468 q_93 q_469 dk_X9_isNet (rmx_ok (by decide) (by decide)) hl.1 rfl (Nat.le_of_ble_eq_true rfl) dX9_kindOf_1 ⟨Nat.zero_le _, Nat.zero_le _⟩) hS (fun H locs hV hS => ?_)
  refine lv_if_eq (tgt := 14) hx hb dX9_kindOf_4 (by decide) (fun b_2 => ?_) (fun b_2 => ?_)
  · have hr := it b_2 hr
    exact K_14  hr _ _ ls hV hS (lv_sub hl [] rfl)
  · have hr := ie b_2 hr
    refine lv_iload_n hx hb dX9_kindOf_7 rfl (lv_at hl 2 rfl) ?_
    obtain ⟨q3, e3, hr⟩ := ob hr
    refine cal_i (run_S (As := [.int x2]) (rest := []) C hV hS (c_X9_isPlace l G b0 V x2 q3 e3) q_616 q_617 q_93 q_618 dk_X9_isPlace (rmx_ok (by decide) (by decide)) hl.1 rfl (Nat.le_of_ble_eq_true rfl) dX9_kindOf_8 ⟨Nat.zero_le _, Nat.zero_le _⟩) hS (fun H locs hV hS => ?_)
    refine lv_if_ne (tgt := 24) hx hb dX9_kindOf_11 (by decide) (fun b_4 => ?_) (fun b_4 => ?_)
    · have hr := ie b_4 hr
      refine lv_aload_n hx hb dX9_kindOf_24 rfl (lv_at hl 0 rfl) ?_
      refine g_X9_0 C hV q_339 dX9_kindOf_25 ?_
      refine lv_iload_n hx hb dX9_kindOf_28 rfl (lv_at hl 1 rfl) ?_
      obtain ⟨q5, e5, hr⟩ := ob hr
      refine cal_r (run_VN (As := [.int x1]) (rest := []) C hV hS (c_X8_netNumbered l G b0 V 1 z_1 x1 q5 e5) (rcv hK hV (kd_lt z_1 (by decide)) (cel_1 z_1) rfl) q_483 q_485 q_1 q_94 q_486 dk_X8_netNumbered (rmx_ok (by decide) (by decide)) hl.1 rfl (Nat.le_of_ble_eq_true rfl) dX9_kindOf_29 ⟨Nat.zero_le _, Nat.zero_le _⟩) hS (fun H locs hV hS => ?_)
      refine lv_iload_n hx hb dX9_kindOf_32 rfl (lv_at hl 2 rfl) ?_
      obtain ⟨q6, e6, hr⟩ := ob hr
      refine cal_i (run_VN (As := [.int x2]) (rest := []) C hV hS (c_X3_kindAt l G b0 V q5 (kr_X8_netNumbered z_1 e5) x2 q6 e6) (rcv hK hV (kd_lt (kr_X8_netNumbered z_1 e5) (by decide)) (cel_5 (kr_X8_netNumbered z_1 e5)) rfl) q_619 q_621 q_20 q_95 q_622 dk_X3_kindAt (rmx_ok (by decide) (by decide)) hl.1 rfl (Nat.le_of_ble_eq_true rfl) dX9_kindOf_33 ⟨Nat.zero_le _, Nat.zero_le _⟩) hS (fun H locs hV hS => ?_)
      rw [← Option.some.inj hr]
      exact fin_ix C hV hS rfl dX9_kindOf_36
    · have hr := it b_4 hr
      exact K_14  hr _ _ ls hV hS (lv_sub hl [] rfl)
set_option maxHeartbeats 4000000 in
set_option maxRecDepth 100000 in
theorem c_X9_isTorn (l : Launch) (hfl : l.stackTraces = false) (G : LG) (b0 : Nat) (V : St) (x1 : Int32) (x2 : Int32) (x3 : Int32) (res : Except Nat Int32) (hr : f_X9_isTorn V x1 x2 x3 = some res) : vx_Met l yX9_isTorn (wy yX9_isTorn cX9_isTorn 4 (some .boolean)) (rmx 6) (va_Pc [.ref (b0 + 0), .int x1, .int x2, .int x3] (Iv G b0 V)) (QIx G b0 res V) (XX G b0 (xe res) V) 1 6 (Ab b0) := by
  refine mk_x (by decide +kernel) (Nat.le_of_ble_eq_true rfl) ?_
  intro p e s m below meth c C ht hV hS ls hl
  obtain ⟨args, hargs⟩ : ∃ z, z = ([.ref (b0 + 0), .int x1, .int x2, .int x3] : List Value).toArray := ⟨_, rfl⟩
  rw [← hargs] at C ⊢
  obtain ⟨hx, hb, hrt, hml, hown, hts, hlocks, hK, hSv⟩ := id C
  have hl : lv_has ls 4 [(0, .ref (b0 + 0)), (1, .int x1), (2, .int x2), (3, .int x3)] := hl
  have K_21 : f_X9_isTorn_b21 V = some res → ∀ (H : Heap) (locs : List Loc) (ls : Array Slot), Hd G b0 V H → va_S (Ab b0) s.heap H locs → lv_has ls 4 [] → W p l e (rmx 6) s m args below meth c H locs 0 0 (vx_MQ below (QIx G b0 res V) (XX G b0 (xe res) V) args s 1 6 (Ab b0)) (F0 m 21 ls []) := by
    intro  hr H locs ls hV hS hl
    unfold f_X9_isTorn_b21 at hr
    rw [← Option.some.inj hr]
    exact th_1 (ik := 193) (is := 195) (ic := 197) C hfl ht hV hS hl.1 q_470 (st_30 hK) q_480 dX9_isTorn_21 dX9_isTorn_24 dX9_isTorn_25 dX9_isTorn_27 dX9_isTorn_30 (Nat.le_of_ble_eq_true rfl) (Nat.le_of_ble_eq_true rfl)
  unfold f_X9_isTorn at hr
  refine lv_iload_n hx hb dX9_isTorn_0 rfl (lv_at hl 1 rfl) ?_
  obtain ⟨q1, e1, hr⟩ := ob hr
  refine cal_i (run_S (As := [.int x1]) (rest := []) C hV hS (c_X9_isNet l G b0 V x1 q1 e1) q_467 q_468 q_93 q_469 dk_X9_isNet (rmx_ok (by decide) (by decide)) hl.1 rfl (Nat.le_of_ble_eq_true rfl) dX9_isTorn_1 ⟨Nat.zero_le _, Nat.zero_le _⟩) hS (fun H locs hV hS => ?_)
  refine lv_if_eq (tgt := 21) hx hb dX9_isTorn_4 (by decide) (fun b_2 => ?_) (fun b_2 => ?_)
  · have hr := it b_2 hr
    exact K_21  hr _ _ ls hV hS (lv_sub hl [] rfl)
  · have hr := ie b_2 hr
    refine lv_iload_n hx hb dX9_isTorn_7 rfl (lv_at hl 2 rfl) ?_
    obtain ⟨q3, e3, hr⟩ := ob hr
    refine cal_i (run_S (As := [.int x2]) (rest := []) C hV hS (c_X9_isPlace l G b0 V x2 q3 e3) q_616 q_617 q_93 q_618 dk_X9_isPlace (rmx_ok (by decide) (by decide)) hl.1 rfl (Nat.le_of_ble_eq_true rfl) dX9_isTorn_8 ⟨Nat.zero_le _, Nat.zero_le _⟩) hS (fun H locs hV hS => ?_)
    refine lv_if_eq (tgt := 21) hx hb dX9_isTorn_11 (by decide) (fun b_4 => ?_) (fun b_4 => ?_)
    · have hr := it b_4 hr
      exact K_21  hr _ _ ls hV hS (lv_sub hl [] rfl)
    · have hr := ie b_4 hr
      refine lv_iload_n hx hb dX9_isTorn_14 rfl (lv_at hl 3 rfl) ?_
      obtain ⟨q5, e5, hr⟩ := ob hr
      refine cal_i (run_S (As := [.int x3]) (rest := []) C hV hS (c_X9_isPlace l G b0 V x3 q5 e5) q_616 q_617 q_93 q_618 dk_X9_isPlace (rmx_ok (by decide) (by decide)) hl.1 rfl (Nat.le_of_ble_eq_true rfl) dX9_isTorn_15 ⟨Nat.zero_le _, Nat.zero_le _⟩) hS (fun H locs hV hS => ?_)
      refine lv_if_ne (tgt := 31) hx hb dX9_isTorn_18 (by decide) (fun b_6 => ?_) (fun b_6 => ?_)
      · have hr := ie b_6 hr
        refine lv_iload_n hx hb dX9_isTorn_31 rfl (lv_at hl 2 rfl) ?_
        refine lv_iload_n hx hb dX9_isTorn_32 rfl (lv_at hl 3 rfl) ?_
        obtain ⟨q7, e7, hr⟩ := ob hr
        refine cal_i (run_S (As := [.int x2, .int x3]) (rest := []) C hV hS (c_X9_areBeside l G b0 V x2 x3 q7 e7) q_699 q_700 q_93 q_701 dk_X9_areBeside (rmx_ok (by decide) (by decide)) hl.1 rfl (Nat.le_of_ble_eq_true rfl) dX9_isTorn_33 ⟨Nat.zero_le _, Nat.zero_le _⟩) hS (fun H locs hV hS => ?_)
        refine lv_if_ne (tgt := 49) hx hb dX9_isTorn_36 (by decide) (fun b_8 => ?_) (fun b_8 => ?_)
        · have hr := ie b_8 hr
          refine lv_aload_n hx hb dX9_isTorn_49 rfl (lv_at hl 0 rfl) ?_
          refine g_X9_0 C hV q_339 dX9_isTorn_50 ?_
          refine lv_iload_n hx hb dX9_isTorn_53 rfl (lv_at hl 1 rfl) ?_
          obtain ⟨q9, e9, hr⟩ := ob hr
          refine cal_r (run_VN (As := [.int x1]) (rest := []) C hV hS (c_X8_netNumbered l G b0 V 1 z_1 x1 q9 e9) (rcv hK hV (kd_lt z_1 (by decide)) (cel_1 z_1) rfl) q_483 q_485 q_1 q_94 q_486 dk_X8_netNumbered (rmx_ok (by decide) (by decide)) hl.1 rfl (Nat.le_of_ble_eq_true rfl) dX9_isTorn_54 ⟨Nat.zero_le _, Nat.zero_le _⟩) hS (fun H locs hV hS => ?_)
          refine lv_iload_n hx hb dX9_isTorn_57 rfl (lv_at hl 2 rfl) ?_
          refine lv_iload_n hx hb dX9_isTorn_58 rfl (lv_at hl 3 rfl) ?_
          obtain ⟨q10, e10, hr⟩ := ob hr
          refine cal_i (run_VN (As := [.int x2, .int x3]) (rest := []) C hV hS (c_X3_isTornBetween l G b0 V q9 (kr_X8_netNumbered z_1 e9) x2 x3 q10 e10) (rcv hK hV (kd_lt (kr_X8_netNumbered z_1 e9) (by decide)) (cel_5 (kr_X8_netNumbered z_1 e9)) rfl) q_710 q_712 q_32 q_95 q_713 dk_X3_isTornBetween (rmx_ok (by decide) (by decide)) hl.1 rfl (Nat.le_of_ble_eq_true rfl) dX9_isTorn_59 ⟨Nat.zero_le _, Nat.zero_le _⟩) hS (fun H locs hV hS => ?_)
          obtain ⟨q11, e11, hr⟩ := ob hr
          rw [← Option.some.inj hr]
          exact fin_zx C hV hS (nr_in e11).2 rfl dX9_isTorn_62
        · have hr := it b_8 hr
          rw [← Option.some.inj hr]
          exact th_2 (ik := 202) (is := 204) (ic := 206) C hfl ht hV hS hl.1 q_1273 (st_31 hK) q_1283 dX9_isTorn_39 dX9_isTorn_42 dX9_isTorn_43 dX9_isTorn_45 dX9_isTorn_48 (Nat.le_of_ble_eq_true rfl) (Nat.le_of_ble_eq_true rfl)
      · have hr := it b_6 hr
        exact K_21  hr _ _ ls hV hS (lv_sub hl [] rfl)
