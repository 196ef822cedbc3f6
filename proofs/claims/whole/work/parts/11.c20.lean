set_option maxHeartbeats 4000000 in
set_option maxRecDepth 100000 in
theorem c_X10_undo (l : Launch) (G : LG) (b0 : Nat) (V : St) (res : Int32 × St) (hr : f_X10_undo V = some res) : Met l yX10_undo (wy yX10_undo cX10_undo 2 (some .int)) (rm 1) (va_Pc [.ref (b0 + 208)] (Iv G b0 V)) (QI G b0 res.1 res.2) 0 0 (Ab b0) := by
  refine mk_m (by decide +kernel) (Nat.le_of_ble_eq_true rfl) ?_
  intro p e s m below meth c C hV hS ls hl
  obtain ⟨args, hargs⟩ : ∃ z, z = ([.ref (b0 + 208)] : List Value).toArray := ⟨_, rfl⟩
  rw [← hargs] at C ⊢
  obtain ⟨hx, hb, hrt, hml, hown, hts, hlocks, hK, hSv⟩ := id C
  have hl : lv_has ls 2 [(0, .ref (b0 + 208))] := hl
  have K_30 : ∀ (n : Nat) (V : St) (x1 : Int32), f_X10_undo_b30 n V x1 = some res → ∀ (H : Heap) (locs : List Loc) (ls : Array Slot), Hd G b0 V H → va_S (Ab b0) s.heap H locs → lv_has ls 2 [(0, .ref (b0 + 208)), (1, .int x1)] → W p l e (rm 1) s m args below meth c H locs 0 0 (MQ below (QI G b0 res.1 res.2) args s 0 0 (Ab b0)) (F0 m 30 ls []) := by
    intro  n
    induction n with
    | zero =>
      intro V x1 hr
      rw [f_X10_undo_b30] at hr
      cases hr
    | succ n ih =>
      intro V x1 hr H locs ls hV hS hl
      rw [f_X10_undo_b30] at hr
      refine lv_iload_n hx hb dX10_undo_30 rfl (lv_at hl 1 rfl) ?_
      refine lv_bipush (v := 53) hx hb dX10_undo_31 (by decide) ?_
      refine lv_icmp_ge (tgt := 62) hx hb dX10_undo_33 (by decide) (fun b_1 => ?_) (fun b_1 => ?_)
      · have hr := it b_1 hr
        refine lv_aload_n hx hb dX10_undo_62 rfl (lv_at hl 0 rfl) ?_
        refine g_X10_5 C hV q_1396 dX10_undo_63 ?_
        rw [← Option.some.inj hr]
        exact fin_i C hV hS rfl dX10_undo_66
      · have hr := ie b_1 hr
        refine lv_aload_n hx hb dX10_undo_36 rfl (lv_at hl 0 rfl) ?_
        refine g_X10_1 C hV q_1392 dX10_undo_37 ?_
        refine lv_iload_n hx hb dX10_undo_40 rfl (lv_at hl 1 rfl) ?_
        refine lv_aload_n hx hb dX10_undo_41 rfl (lv_at hl 0 rfl) ?_
        refine g_X10_4 C hV q_1395 dX10_undo_42 ?_
        refine lv_bipush (v := 53) hx hb dX10_undo_45 (by decide) ?_
        refine lv_aload_n hx hb dX10_undo_47 rfl (lv_at hl 0 rfl) ?_
        refine g_X10_5 C hV q_1396 dX10_undo_48 ?_
        refine lv_imul hx hb dX10_undo_51 ?_
        refine lv_iload_n hx hb dX10_undo_52 rfl (lv_at hl 1 rfl) ?_
        refine lv_iadd hx hb dX10_undo_53 ?_
        obtain ⟨j2, e2, hr⟩ := ob hr
        refine a_24 (k := 212) (i := ((53 * (V 208 5)) + x1)) (j := j2) C hV z_212 e2 dX10_undo_54 ?_
        obtain ⟨j3, e3, hr⟩ := ob hr
        refine s_21 (k := 209) (i := x1) (j := j3) (x := (V 212 j2)) C hV hS z_209 e3 dX10_undo_55 (fun H locs hV hS => ?_)
        refine lv_iinc (v := x1 + 1) (lv' := [(1, .int (x1 + 1)), (0, .ref (b0 + 208))]) hx hb dX10_undo_56 hl (k := 1) rfl rfl (by decide) rfl (fun ls hl => ?_)
        refine lv_goto (tgt := 30) hx hb dX10_undo_59 (by decide) ?_
        exact ih _ (x1 + 1) hr _ _ ls hV hS (lv_sub hl [1, 0] rfl)
  unfold f_X10_undo at hr
  refine lv_aload_n hx hb dX10_undo_0 rfl (lv_at hl 0 rfl) ?_
  refine lv_iconst (v := 0) hx hb dX10_undo_1 (by decide) ?_
  refine p_X10_0 (x := 0) C hV hS q_1391 dX10_undo_2 (fun H locs hV hS => ?_)
  refine lv_aload_n hx hb dX10_undo_5 rfl (lv_at hl 0 rfl) ?_
  refine g_X10_5 C hV q_1396 dX10_undo_6 ?_
  refine lv_if_ne (tgt := 18) hx hb dX10_undo_9 (by decide) (fun b_4 => ?_) (fun b_4 => ?_)
  · have hr := ie b_4 hr
    refine lv_aload_n hx hb dX10_undo_18 rfl (lv_at hl 0 rfl) ?_
    refine lv_dup hx hb dX10_undo_19 rfl ?_
    refine g_X10_5 C hV q_1396 dX10_undo_20 ?_
    refine lv_iconst (v := 1) hx hb dX10_undo_23 (by decide) ?_
    refine lv_isub hx hb dX10_undo_24 ?_
    refine p_X10_5 (x := (((up V 208 0 0) 208 5) - 1)) C hV hS q_1396 dX10_undo_25 (fun H locs hV hS => ?_)
    refine lv_iconst (v := 0) hx hb dX10_undo_28 (by decide) ?_
    refine lv_istore_n (lv' := [(1, .int 0), (0, .ref (b0 + 208))]) hx hb dX10_undo_29 rfl hl (by decide) rfl (fun ls hl => ?_)
    exact K_30 500 _ 0 hr _ _ ls hV hS (lv_sub hl [1, 0] rfl)
  · have hr := it b_4 hr
    refine lv_aload_n hx hb dX10_undo_12 rfl (lv_at hl 0 rfl) ?_
    refine lv_iconst (v := 1) hx hb dX10_undo_13 (by decide) ?_
    obtain ⟨q5, e5, hr⟩ := ob hr
    refine cal_i (run_V (As := [.int 1]) (rest := []) C hV hS (c_X10_fails l G b0 (up V 208 0 0) 1 q5 e5) (rcv hK hV (kd_lt z_208 (by decide)) (cel_20 z_208) rfl) q_1523 q_1525 q_103 q_151 q_1526 dk_X10_fails (rm_ok (by decide) (by decide)) hl.1 rfl (Nat.le_of_ble_eq_true rfl) dX10_undo_14 ⟨Nat.zero_le _, Nat.zero_le _⟩) hS (fun H locs hV hS => ?_)
    rw [← Option.some.inj hr]
    exact fin_i C hV hS rfl dX10_undo_17
set_option maxHeartbeats 4000000 in
set_option maxRecDepth 100000 in
theorem c_X10_save (l : Launch) (G : LG) (b0 : Nat) (V : St) (res : Int32 × St) (hr : f_X10_save V = some res) : Met l yX10_save (wy yX10_save cX10_save 2 (some .int)) (rm 0) (va_Pc [.ref (b0 + 208)] (Iv G b0 V)) (QI G b0 res.1 res.2) 0 0 (Ab b0) := by
  refine mk_m (by decide +kernel) (Nat.le_of_ble_eq_true rfl) ?_
  intro p e s m below meth c C hV hS ls hl
  obtain ⟨args, hargs⟩ : ∃ z, z = ([.ref (b0 + 208)] : List Value).toArray := ⟨_, rfl⟩
  rw [← hargs] at C ⊢
  obtain ⟨hx, hb, hrt, hml, hown, hts, hlocks, hK, hSv⟩ := id C
  have hl : lv_has ls 2 [(0, .ref (b0 + 208))] := hl
  have K_7 : ∀ (n : Nat) (V : St) (x1 : Int32), f_X10_save_b7 n V x1 = some res → ∀ (H : Heap) (locs : List Loc) (ls : Array Slot), Hd G b0 V H → va_S (Ab b0) s.heap H locs → lv_has ls 2 [(0, .ref (b0 + 208)), (1, .int x1)] → W p l e (rm 0) s m args below meth c H locs 0 0 (MQ below (QI G b0 res.1 res.2) args s 0 0 (Ab b0)) (F0 m 7 ls []) := by
    intro  n
    induction n with
    | zero =>
      intro V x1 hr
      rw [f_X10_save_b7] at hr
      cases hr
    | succ n ih =>
      intro V x1 hr H locs ls hV hS hl
      rw [f_X10_save_b7] at hr
      refine lv_iload_n hx hb dX10_save_7 rfl (lv_at hl 1 rfl) ?_
      refine lv_bipush (v := 53) hx hb dX10_save_8 (by decide) ?_
      refine lv_icmp_ge (tgt := 31) hx hb dX10_save_10 (by decide) (fun b_1 => ?_) (fun b_1 => ?_)
      · have hr := it b_1 hr
        refine lv_aload_n hx hb dX10_save_31 rfl (lv_at hl 0 rfl) ?_
        refine lv_iconst (v := 1) hx hb dX10_save_32 (by decide) ?_
        refine p_X10_6 (x := 1) C hV hS q_1397 (by decide) dX10_save_33 (fun H locs hV hS => ?_)
        refine lv_aload_n hx hb dX10_save_36 rfl (lv_at hl 0 rfl) ?_
        refine g_X10_1 C hV q_1392 dX10_save_37 ?_
        refine lv_iconst (v := 2) hx hb dX10_save_40 (by decide) ?_
        refine a_21 (k := 209) (i := 2) (j := 2) C hV z_209 (by decide) dX10_save_41 ?_
        rw [← Option.some.inj hr]
        exact fin_i C hV hS rfl dX10_save_42
      · have hr := ie b_1 hr
        refine lv_aload_n hx hb dX10_save_13 rfl (lv_at hl 0 rfl) ?_
        refine g_X10_3 C hV q_1394 dX10_save_14 ?_
        refine lv_iload_n hx hb dX10_save_17 rfl (lv_at hl 1 rfl) ?_
        refine lv_aload_n hx hb dX10_save_18 rfl (lv_at hl 0 rfl) ?_
        refine g_X10_1 C hV q_1392 dX10_save_19 ?_
        refine lv_iload_n hx hb dX10_save_22 rfl (lv_at hl 1 rfl) ?_
        obtain ⟨j2, e2, hr⟩ := ob hr
        refine a_21 (k := 209) (i := x1) (j := j2) C hV z_209 e2 dX10_save_23 ?_
        obtain ⟨j3, e3, hr⟩ := ob hr
        refine s_23 (k := 211) (i := x1) (j := j3) (x := (V 209 j2)) C hV hS z_211 e3 dX10_save_24 (fun H locs hV hS => ?_)
        refine lv_iinc (v := x1 + 1) (lv' := [(1, .int (x1 + 1)), (0, .ref (b0 + 208))]) hx hb dX10_save_25 hl (k := 1) rfl rfl (by decide) rfl (fun ls hl => ?_)
        refine lv_goto (tgt := 7) hx hb dX10_save_28 (by decide) ?_
        exact ih _ (x1 + 1) hr _ _ ls hV hS (lv_sub hl [1, 0] rfl)
  unfold f_X10_save at hr
  refine lv_aload_n hx hb dX10_save_0 rfl (lv_at hl 0 rfl) ?_
  refine lv_iconst (v := 0) hx hb dX10_save_1 (by decide) ?_
  refine p_X10_0 (x := 0) C hV hS q_1391 dX10_save_2 (fun H locs hV hS => ?_)
  refine lv_iconst (v := 0) hx hb dX10_save_5 (by decide) ?_
  refine lv_istore_n (lv' := [(1, .int 0), (0, .ref (b0 + 208))]) hx hb dX10_save_6 rfl hl (by decide) rfl (fun ls hl => ?_)
  exact K_7 500 _ 0 hr _ _ ls hV hS (lv_sub hl [1, 0] rfl)
set_option maxHeartbeats 4000000 in
set_option maxRecDepth 100000 in
theorem c_X10_restore (l : Launch) (G : LG) (b0 : Nat) (V : St) (res : Int32 × St) (hr : f_X10_restore V = some res) : Met l yX10_restore (wy yX10_restore cX10_restore 2 (some .int)) (rm 1) (va_Pc [.ref (b0 + 208)] (Iv G b0 V)) (QI G b0 res.1 res.2) 0 0 (Ab b0) := by
  refine mk_m (by decide +kernel) (Nat.le_of_ble_eq_true rfl) ?_
  intro p e s m below meth c C hV hS ls hl
  obtain ⟨args, hargs⟩ : ∃ z, z = ([.ref (b0 + 208)] : List Value).toArray := ⟨_, rfl⟩
  rw [← hargs] at C ⊢
  obtain ⟨hx, hb, hrt, hml, hown, hts, hlocks, hK, hSv⟩ := id C
  have hl : lv_has ls 2 [(0, .ref (b0 + 208))] := hl
  have K_20 : ∀ (n : Nat) (V : St) (x1 : Int32), f_X10_restore_b20 n V x1 = some res → ∀ (H : Heap) (locs : List Loc) (ls : Array Slot), Hd G b0 V H → va_S (Ab b0) s.heap H locs → lv_has ls 2 [(0, .ref (b0 + 208)), (1, .int x1)] → W p l e (rm 1) s m args below meth c H locs 0 0 (MQ below (QI G b0 res.1 res.2) args s 0 0 (Ab b0)) (F0 m 20 ls []) := by
    intro  n
    induction n with
    | zero =>
      intro V x1 hr
      rw [f_X10_restore_b20] at hr
      cases hr
    | succ n ih =>
      intro V x1 hr H locs ls hV hS hl
      rw [f_X10_restore_b20] at hr
      refine lv_iload_n hx hb dX10_restore_20 rfl (lv_at hl 1 rfl) ?_
      refine lv_bipush (v := 53) hx hb dX10_restore_21 (by decide) ?_
      refine lv_icmp_ge (tgt := 44) hx hb dX10_restore_23 (by decide) (fun b_1 => ?_) (fun b_1 => ?_)
      · have hr := it b_1 hr
        refine lv_aload_n hx hb dX10_restore_44 rfl (lv_at hl 0 rfl) ?_
        refine lv_iconst (v := 0) hx hb dX10_restore_45 (by decide) ?_
        refine p_X10_5 (x := 0) C hV hS q_1396 dX10_restore_46 (fun H locs hV hS => ?_)
        refine lv_aload_n hx hb dX10_restore_49 rfl (lv_at hl 0 rfl) ?_
        refine g_X10_1 C hV q_1392 dX10_restore_50 ?_
        refine lv_iconst (v := 2) hx hb dX10_restore_53 (by decide) ?_
        refine a_21 (k := 209) (i := 2) (j := 2) C hV z_209 (by decide) dX10_restore_54 ?_
        rw [← Option.some.inj hr]
        exact fin_i C hV hS rfl dX10_restore_55
      · have hr := ie b_1 hr
        refine lv_aload_n hx hb dX10_restore_26 rfl (lv_at hl 0 rfl) ?_
        refine g_X10_1 C hV q_1392 dX10_restore_27 ?_
        refine lv_iload_n hx hb dX10_restore_30 rfl (lv_at hl 1 rfl) ?_
        refine lv_aload_n hx hb dX10_restore_31 rfl (lv_at hl 0 rfl) ?_
        refine g_X10_3 C hV q_1394 dX10_restore_32 ?_
        refine lv_iload_n hx hb dX10_restore_35 rfl (lv_at hl 1 rfl) ?_
        obtain ⟨j2, e2, hr⟩ := ob hr
        refine a_23 (k := 211) (i := x1) (j := j2) C hV z_211 e2 dX10_restore_36 ?_
        obtain ⟨j3, e3, hr⟩ := ob hr
        refine s_21 (k := 209) (i := x1) (j := j3) (x := (V 211 j2)) C hV hS z_209 e3 dX10_restore_37 (fun H locs hV hS => ?_)
        refine lv_iinc (v := x1 + 1) (lv' := [(1, .int (x1 + 1)), (0, .ref (b0 + 208))]) hx hb dX10_restore_38 hl (k := 1) rfl rfl (by decide) rfl (fun ls hl => ?_)
        refine lv_goto (tgt := 20) hx hb dX10_restore_41 (by decide) ?_
        exact ih _ (x1 + 1) hr _ _ ls hV hS (lv_sub hl [1, 0] rfl)
  unfold f_X10_restore at hr
  refine lv_aload_n hx hb dX10_restore_0 rfl (lv_at hl 0 rfl) ?_
  refine lv_iconst (v := 0) hx hb dX10_restore_1 (by decide) ?_
  refine p_X10_0 (x := 0) C hV hS q_1391 dX10_restore_2 (fun H locs hV hS => ?_)
  refine lv_aload_n hx hb dX10_restore_5 rfl (lv_at hl 0 rfl) ?_
  refine g_X10_6 C hV q_1397 dX10_restore_6 ?_
  refine lv_if_ne (tgt := 18) hx hb dX10_restore_9 (by decide) (fun b_4 => ?_) (fun b_4 => ?_)
  · have hr := ie b_4 hr
    refine lv_iconst (v := 0) hx hb dX10_restore_18 (by decide) ?_
    refine lv_istore_n (lv' := [(1, .int 0), (0, .ref (b0 + 208))]) hx hb dX10_restore_19 rfl hl (by decide) rfl (fun ls hl => ?_)
    exact K_20 500 _ 0 hr _ _ ls hV hS (lv_sub hl [1, 0] rfl)
  · have hr := it b_4 hr
    refine lv_aload_n hx hb dX10_restore_12 rfl (lv_at hl 0 rfl) ?_
    refine lv_iconst (v := 1) hx hb dX10_restore_13 (by decide) ?_
    obtain ⟨q5, e5, hr⟩ := ob hr
    refine cal_i (run_V (As := [.int 1]) (rest := []) C hV hS (c_X10_fails l G b0 (up V 208 0 0) 1 q5 e5) (rcv hK hV (kd_lt z_208 (by decide)) (cel_20 z_208) rfl) q_1523 q_1525 q_103 q_151 q_1526 dk_X10_fails (rm_ok (by decide) (by decide)) hl.1 rfl (Nat.le_of_ble_eq_true rfl) dX10_restore_14 ⟨Nat.zero_le _, Nat.zero_le _⟩) hS (fun H locs hV hS => ?_)
    rw [← Option.some.inj hr]
    exact fin_i C hV hS rfl dX10_restore_17
