set_option maxHeartbeats 4000000 in
set_option maxRecDepth 100000 in
theorem c_X10_noteLine (l : Launch) (G : LG) (b0 : Nat) (V : St) (x1 : Int32) (res : Int32 × St) (hr : f_X10_noteLine V x1 = some res) : Met l yX10_noteLine (wy yX10_noteLine cX10_noteLine 3 (some .int)) (rm 3) (va_Pc [.ref (b0 + 208), .int x1] (Iv G b0 V)) (QI G b0 res.1 res.2) 0 0 (Ab b0) := by
  refine mk_m (by decide +kernel) (Nat.le_of_ble_eq_true rfl) ?_
  intro p e s m below meth c C hV hS ls hl
  obtain ⟨args, hargs⟩ : ∃ z, z = ([.ref (b0 + 208), .int x1] : List Value).toArray := ⟨_, rfl⟩
  rw [← hargs] at C ⊢
  obtain ⟨hx, hb, hrt, hml, hown, hts, hlocks, hK, hSv⟩ := id C
  have hl : lv_has ls 3 [(0, .ref (b0 + 208)), (1, .int x1)] := hl
  have K_83 : ∀ (c_33 : St → Int32 → Int32 → Option (Int32 × St)) (hc_33 : ∀ (V : St) (x1 : Int32) (x2 : Int32), c_33 V x1 x2 = some res → ∀ (H : Heap) (locs : List Loc) (ls : Array Slot), Hd G b0 V H → va_S (Ab b0) s.heap H locs → lv_has ls 3 [(0, .ref (b0 + 208)), (1, .int x1), (2, .int x2)] → W p l e (rm 3) s m args below meth c H locs 0 0 (MQ below (QI G b0 res.1 res.2) args s 0 0 (Ab b0)) (F0 m 33 ls [])) (V : St) (x1 : Int32) (x2 : Int32), f_X10_noteLine_b83 c_33 V x1 x2 = some res → ∀ (H : Heap) (locs : List Loc) (ls : Array Slot), Hd G b0 V H → va_S (Ab b0) s.heap H locs → lv_has ls 3 [(0, .ref (b0 + 208)), (1, .int x1), (2, .int x2)] → W p l e (rm 3) s m args below meth c H locs 0 0 (MQ below (QI G b0 res.1 res.2) args s 0 0 (Ab b0)) (F0 m 83 ls []) := by
    intro c_33 hc_33 V x1 x2 hr H locs ls hV hS hl
    unfold f_X10_noteLine_b83 at hr
    refine lv_iinc (v := x2 + 1) (lv' := [(2, .int (x2 + 1)), (0, .ref (b0 + 208)), (1, .int x1)]) hx hb dX10_noteLine_83 hl (k := 2) rfl rfl (by decide) rfl (fun ls hl => ?_)
    refine lv_goto (tgt := 33) hx hb dX10_noteLine_86 (by decide) ?_
    exact hc_33 _ x1 (x2 + 1) hr _ _ ls hV hS (lv_sub hl [1, 2, 0] rfl)
  have K_33 : ∀ (n : Nat) (V : St) (x1 : Int32) (x2 : Int32), f_X10_noteLine_b33 n V x1 x2 = some res → ∀ (H : Heap) (locs : List Loc) (ls : Array Slot), Hd G b0 V H → va_S (Ab b0) s.heap H locs → lv_has ls 3 [(0, .ref (b0 + 208)), (1, .int x1), (2, .int x2)] → W p l e (rm 3) s m args below meth c H locs 0 0 (MQ below (QI G b0 res.1 res.2) args s 0 0 (Ab b0)) (F0 m 33 ls []) := by
    intro  n
    induction n with
    | zero =>
      intro V x1 x2 hr
      rw [f_X10_noteLine_b33] at hr
      cases hr
    | succ n ih =>
      intro V x1 x2 hr H locs ls hV hS hl
      rw [f_X10_noteLine_b33] at hr
      refine lv_iload_n hx hb dX10_noteLine_33 rfl (lv_at hl 2 rfl) ?_
      refine lv_bipush (v := 24) hx hb dX10_noteLine_34 (by decide) ?_
      refine lv_icmp_ge (tgt := 89) hx hb dX10_noteLine_36 (by decide) (fun b_1 => ?_) (fun b_1 => ?_)
      · have hr := it b_1 hr
        refine lv_aload_n hx hb dX10_noteLine_89 rfl (lv_at hl 0 rfl) ?_
        refine lv_iload_n hx hb dX10_noteLine_90 rfl (lv_at hl 1 rfl) ?_
        obtain ⟨q2, e2, hr⟩ := ob hr
        refine cal_i (run_V (As := [.int x1]) (rest := []) C hV hS (c_X10_readsSo l G b0 V x1 q2 e2) (rcv hK hV (kd_lt z_208 (by decide)) (cel_20 z_208) rfl) q_1671 q_1673 q_123 q_151 q_1674 dk_X10_readsSo (rm_ok (by decide) (by decide)) hl.1 rfl (Nat.le_of_ble_eq_true rfl) dX10_noteLine_91 ⟨Nat.zero_le _, Nat.zero_le _⟩) hS (fun H locs hV hS => ?_)
        refine lv_if_ne (tgt := 103) hx hb dX10_noteLine_94 (by decide) (fun b_3 => ?_) (fun b_3 => ?_)
        · have hr := ie b_3 hr
          refine lv_aload_n hx hb dX10_noteLine_103 rfl (lv_at hl 0 rfl) ?_
          refine g_X10_11 C hV q_1402 dX10_noteLine_104 ?_
          rw [← Option.some.inj hr]
          exact fin_i C hV hS rfl dX10_noteLine_107
        · have hr := it b_3 hr
          refine lv_aload_n hx hb dX10_noteLine_97 rfl (lv_at hl 0 rfl) ?_
          refine lv_bipush (v := 33) hx hb dX10_noteLine_98 (by decide) ?_
          obtain ⟨q4, e4, hr⟩ := ob hr
          refine cal_v (run_V (As := [.int 33]) (rest := []) C hV hS (c_X10_writes l G b0 q2.2 33 q4 e4) (rcv hK hV (kd_lt z_208 (by decide)) (cel_20 z_208) rfl) q_1774 q_1776 q_135 q_151 q_1777 dk_X10_writes (rm_ok (by decide) (by decide)) hl.1 rfl (Nat.le_of_ble_eq_true rfl) dX10_noteLine_100 ⟨Nat.zero_le _, Nat.zero_le _⟩) hS (fun H locs hV hS => ?_)
          refine lv_aload_n hx hb dX10_noteLine_103 rfl (lv_at hl 0 rfl) ?_
          refine g_X10_11 C hV q_1402 dX10_noteLine_104 ?_
          rw [← Option.some.inj hr]
          exact fin_i C hV hS rfl dX10_noteLine_107
      · have hr := ie b_1 hr
        refine lv_aload_n hx hb dX10_noteLine_39 rfl (lv_at hl 0 rfl) ?_
        refine lv_iload_n hx hb dX10_noteLine_40 rfl (lv_at hl 1 rfl) ?_
        refine lv_iconst (v := 1) hx hb dX10_noteLine_41 (by decide) ?_
        obtain ⟨q5, e5, hr⟩ := ob hr
        refine cal_i (run_V (As := [.int x1, .int 1]) (rest := []) C hV hS (c_X10_ofNote l G b0 V x1 1 q5 e5) (rcv hK hV (kd_lt z_208 (by decide)) (cel_20 z_208) rfl) q_1614 q_1616 q_117 q_151 q_1617 dk_X10_ofNote (rm_ok (by decide) (by decide)) hl.1 rfl (Nat.le_of_ble_eq_true rfl) dX10_noteLine_42 ⟨Nat.zero_le _, Nat.zero_le _⟩) hS (fun H locs hV hS => ?_)
        refine lv_iload_n hx hb dX10_noteLine_45 rfl (lv_at hl 2 rfl) ?_
        refine lv_ishr hx hb dX10_noteLine_46 ?_
        refine lv_iconst (v := 1) hx hb dX10_noteLine_47 (by decide) ?_
        refine lv_iand hx hb dX10_noteLine_48 ?_
        refine lv_iconst (v := 1) hx hb dX10_noteLine_49 (by decide) ?_
        refine lv_icmp_ne (tgt := 83) hx hb dX10_noteLine_50 (by decide) (fun b_6 => ?_) (fun b_6 => ?_)
        · have hr := ie b_6 hr
          exact K_83 (fun V x1 x2 => f_X10_noteLine_b33 n V x1 x2) (fun V x1 x2 hr => ih V x1 x2 hr) _ x1 x2 hr _ _ ls hV hS (lv_sub hl [0, 1, 2] rfl)
        · have hr := it b_6 hr
          refine lv_aload_n hx hb dX10_noteLine_53 rfl (lv_at hl 0 rfl) ?_
          refine lv_aload_n hx hb dX10_noteLine_54 rfl (lv_at hl 0 rfl) ?_
          refine lv_iload_n hx hb dX10_noteLine_55 rfl (lv_at hl 1 rfl) ?_
          refine lv_iconst (v := 2) hx hb dX10_noteLine_56 (by decide) ?_
          obtain ⟨q7, e7, hr⟩ := ob hr
          refine cal_i (run_V (As := [.int x1, .int 2]) (rest := [.ref (b0 + 208)]) C hV hS (c_X10_ofNote l G b0 V x1 2 q7 e7) (rcv hK hV (kd_lt z_208 (by decide)) (cel_20 z_208) rfl) q_1614 q_1616 q_117 q_151 q_1617 dk_X10_ofNote (rm_ok (by decide) (by decide)) hl.1 rfl (Nat.le_of_ble_eq_true rfl) dX10_noteLine_57 ⟨Nat.zero_le _, Nat.zero_le _⟩) hS (fun H locs hV hS => ?_)
          refine lv_iload_n hx hb dX10_noteLine_60 rfl (lv_at hl 2 rfl) ?_
          refine lv_ishr hx hb dX10_noteLine_61 ?_
          refine lv_iconst (v := 1) hx hb dX10_noteLine_62 (by decide) ?_
          refine lv_iand hx hb dX10_noteLine_63 ?_
          refine lv_iconst (v := 2) hx hb dX10_noteLine_64 (by decide) ?_
          refine lv_aload_n hx hb dX10_noteLine_65 rfl (lv_at hl 0 rfl) ?_
          refine lv_iload_n hx hb dX10_noteLine_66 rfl (lv_at hl 1 rfl) ?_
          refine lv_iconst (v := 3) hx hb dX10_noteLine_67 (by decide) ?_
          obtain ⟨q8, e8, hr⟩ := ob hr
          refine cal_i (run_V (As := [.int x1, .int 3]) (rest := [.int 2, .int ((q7 >>> (x2 &&& 31)) &&& 1), .ref (b0 + 208)]) C hV hS (c_X10_ofNote l G b0 V x1 3 q8 e8) (rcv hK hV (kd_lt z_208 (by decide)) (cel_20 z_208) rfl) q_1614 q_1616 q_117 q_151 q_1617 dk_X10_ofNote (rm_ok (by decide) (by decide)) hl.1 rfl (Nat.le_of_ble_eq_true rfl) dX10_noteLine_68 ⟨Nat.zero_le _, Nat.zero_le _⟩) hS (fun H locs hV hS => ?_)
          refine lv_iload_n hx hb dX10_noteLine_71 rfl (lv_at hl 2 rfl) ?_
          refine lv_ishr hx hb dX10_noteLine_72 ?_
          refine lv_iconst (v := 1) hx hb dX10_noteLine_73 (by decide) ?_
          refine lv_iand hx hb dX10_noteLine_74 ?_
          refine lv_imul hx hb dX10_noteLine_75 ?_
          refine lv_iadd hx hb dX10_noteLine_76 ?_
          obtain ⟨q9, e9, hr⟩ := ob hr
          refine cal_i (run_S (As := [.int (((q7 >>> (x2 &&& 31)) &&& 1) + (2 * ((q8 >>> (x2 &&& 31)) &&& 1)))]) (rest := [.ref (b0 + 208)]) C hV hS (c_X10_letter l G b0 V (((q7 >>> (x2 &&& 31)) &&& 1) + (2 * ((q8 >>> (x2 &&& 31)) &&& 1))) q9 e9) q_1778 q_1779 q_151 q_1780 dk_X10_letter (rm_ok (by decide) (by decide)) hl.1 rfl (Nat.le_of_ble_eq_true rfl) dX10_noteLine_77 ⟨Nat.zero_le _, Nat.zero_le _⟩) hS (fun H locs hV hS => ?_)
          obtain ⟨q10, e10, hr⟩ := ob hr
          refine cal_v (run_V (As := [.int q9]) (rest := []) C hV hS (c_X10_writes l G b0 V q9 q10 e10) (rcv hK hV (kd_lt z_208 (by decide)) (cel_20 z_208) rfl) q_1774 q_1776 q_135 q_151 q_1777 dk_X10_writes (rm_ok (by decide) (by decide)) hl.1 rfl (Nat.le_of_ble_eq_true rfl) dX10_noteLine_80 ⟨Nat.zero_le _, Nat.zero_le _⟩) hS (fun H locs hV hS => ?_)
          exact K_83 (fun V x1 x2 => f_X10_noteLine_b33 n V x1 x2) (fun V x1 x2 hr => ih V x1 x2 hr) _ x1 x2 hr _ _ ls hV hS (lv_sub hl [0, 1, 2] rfl)
  have K_14 : ∀ (V : St) (x1 : Int32) (y0 : Int32), f_X10_noteLine_b14 V x1 y0 = some res → ∀ (H : Heap) (locs : List Loc) (ls : Array Slot), Hd G b0 V H → va_S (Ab b0) s.heap H locs → lv_has ls 3 [(0, .ref (b0 + 208)), (1, .int x1)] → W p l e (rm 3) s m args below meth c H locs 0 0 (MQ below (QI G b0 res.1 res.2) args s 0 0 (Ab b0)) (F0 m 14 ls [.int y0, .ref (b0 + 208)]) := by
    intro V x1 y0 hr H locs ls hV hS hl
    unfold f_X10_noteLine_b14 at hr
    refine p_X10_0 (x := y0) C hV hS q_1391 dX10_noteLine_14 (fun H locs hV hS => ?_)
    refine lv_aload_n hx hb dX10_noteLine_17 rfl (lv_at hl 0 rfl) ?_
    refine g_X10_0 C hV q_1391 dX10_noteLine_18 ?_
    refine lv_if_le (tgt := 26) hx hb dX10_noteLine_21 (by decide) (fun b_11 => ?_) (fun b_11 => ?_)
    · have hr := it b_11 hr
      refine lv_aload_n hx hb dX10_noteLine_26 rfl (lv_at hl 0 rfl) ?_
      refine lv_iconst (v := 0) hx hb dX10_noteLine_27 (by decide) ?_
      refine p_X10_11 (x := 0) C hV hS q_1402 dX10_noteLine_28 (fun H locs hV hS => ?_)
      refine lv_iconst (v := 0) hx hb dX10_noteLine_31 (by decide) ?_
      refine lv_istore_n (lv' := [(2, .int 0), (0, .ref (b0 + 208)), (1, .int x1)]) hx hb dX10_noteLine_32 rfl hl (by decide) rfl (fun ls hl => ?_)
      exact K_33 500 _ x1 0 hr _ _ ls hV hS (lv_sub hl [1, 2, 0] rfl)
    · have hr := ie b_11 hr
      refine lv_iconst (v := 0) hx hb dX10_noteLine_24 (by decide) ?_
      rw [← Option.some.inj hr]
      exact fin_i C hV hS rfl dX10_noteLine_25
  unfold f_X10_noteLine at hr
  refine lv_aload_n hx hb dX10_noteLine_0 rfl (lv_at hl 0 rfl) ?_
  refine lv_aload_n hx hb dX10_noteLine_1 rfl (lv_at hl 0 rfl) ?_
  refine lv_iload_n hx hb dX10_noteLine_2 rfl (lv_at hl 1 rfl) ?_
  obtain ⟨q12, e12, hr⟩ := ob hr
  refine cal_i (run_V (As := [.int x1]) (rest := [.ref (b0 + 208)]) C hV hS (c_X10_isNote l G b0 V x1 q12 e12) (rcv hK hV (kd_lt z_208 (by decide)) (cel_20 z_208) rfl) q_1667 q_1669 q_122 q_151 q_1670 dk_X10_isNote (rm_ok (by decide) (by decide)) hl.1 rfl (Nat.le_of_ble_eq_true rfl) dX10_noteLine_3 ⟨Nat.zero_le _, Nat.zero_le _⟩) hS (fun H locs hV hS => ?_)
  refine lv_if_eq (tgt := 13) hx hb dX10_noteLine_6 (by decide) (fun b_13 => ?_) (fun b_13 => ?_)
  · have hr := it b_13 hr
    refine lv_iconst (v := 1) hx hb dX10_noteLine_13 (by decide) ?_
    exact K_14 _ x1 1 hr _ _ ls hV hS (lv_sub hl [0, 1] rfl)
  · have hr := ie b_13 hr
    refine lv_iconst (v := 0) hx hb dX10_noteLine_9 (by decide) ?_
    refine lv_goto (tgt := 14) hx hb dX10_noteLine_10 (by decide) ?_
    exact K_14 _ x1 0 hr _ _ ls hV hS (lv_sub hl [0, 1] rfl)
set_option maxHeartbeats 4000000 in
set_option maxRecDepth 100000 in
theorem c_X10_character (l : Launch) (G : LG) (b0 : Nat) (V : St) (x1 : Int32) (res : Int32 × St) (hr : f_X10_character V x1 = some res) : Met l yX10_character (wy yX10_character cX10_character 2 (some .char)) (rm 1) (va_Pc [.ref (b0 + 208), .int x1] (Iv G b0 V)) (QI G b0 res.1 res.2) 0 0 (Ab b0) := by
  refine mk_m (by decide +kernel) (Nat.le_of_ble_eq_true rfl) ?_
  intro p e s m below meth c C hV hS ls hl
  obtain ⟨args, hargs⟩ : ∃ z, z = ([.ref (b0 + 208), .int x1] : List Value).toArray := ⟨_, rfl⟩
  rw [← hargs] at C ⊢
  obtain ⟨hx, hb, hrt, hml, hown, hts, hlocks, hK, hSv⟩ := id C
  have hl : lv_has ls 2 [(0, .ref (b0 + 208)), (1, .int x1)] := hl
  have K_20 : ∀ (V : St) (x1 : Int32) (y0 : Int32), f_X10_character_b20 V x1 y0 = some res → ∀ (H : Heap) (locs : List Loc) (ls : Array Slot), Hd G b0 V H → va_S (Ab b0) s.heap H locs → lv_has ls 2 [(0, .ref (b0 + 208)), (1, .int x1)] → W p l e (rm 1) s m args below meth c H locs 0 0 (MQ below (QI G b0 res.1 res.2) args s 0 0 (Ab b0)) (F0 m 20 ls [.int y0, .ref (b0 + 208)]) := by
    intro V x1 y0 hr H locs ls hV hS hl
    unfold f_X10_character_b20 at hr
    refine p_X10_0 (x := y0) C hV hS q_1391 dX10_character_20 (fun H locs hV hS => ?_)
    refine lv_aload_n hx hb dX10_character_23 rfl (lv_at hl 0 rfl) ?_
    refine g_X10_0 C hV q_1391 dX10_character_24 ?_
    refine lv_if_le (tgt := 34) hx hb dX10_character_27 (by decide) (fun b_1 => ?_) (fun b_1 => ?_)
    · have hr := it b_1 hr
      refine lv_aload_n hx hb dX10_character_34 rfl (lv_at hl 0 rfl) ?_
      refine g_X10_9 C hV q_1400 dX10_character_35 ?_
      refine lv_iload_n hx hb dX10_character_38 rfl (lv_at hl 1 rfl) ?_
      obtain ⟨j2, e2, hr⟩ := ob hr
      refine a_27 (k := 215) (i := x1) (j := j2) C hV z_215 e2 dX10_character_39 ?_
      refine lv_i2c (v := i2c ((up V 208 0 y0) 215 j2)) hx hb dX10_character_40 rfl ?_
      obtain ⟨q3, e3, hr⟩ := ob hr
      rw [← Option.some.inj hr]
      exact fin_c C hV hS (nr_in e3).2 rfl dX10_character_41
    · have hr := ie b_1 hr
      refine lv_iconst (v := 0) hx hb dX10_character_30 (by decide) ?_
      refine lv_goto (tgt := 41) hx hb dX10_character_31 (by decide) ?_
      rw [← Option.some.inj hr]
      exact fin_c C hV hS (by decide) rfl dX10_character_41
  unfold f_X10_character at hr
  refine lv_aload_n hx hb dX10_character_0 rfl (lv_at hl 0 rfl) ?_
  refine lv_iload_n hx hb dX10_character_1 rfl (lv_at hl 1 rfl) ?_
  refine lv_iconst (v := 0) hx hb dX10_character_2 (by decide) ?_
  refine lv_aload_n hx hb dX10_character_3 rfl (lv_at hl 0 rfl) ?_
  refine g_X10_11 C hV q_1402 dX10_character_4 ?_
  refine lv_iconst (v := 1) hx hb dX10_character_7 (by decide) ?_
  refine lv_isub hx hb dX10_character_8 ?_
  obtain ⟨q4, e4, hr⟩ := ob hr
  refine cal_i (run_S (As := [.int x1, .int 0, .int ((V 208 11) - 1)]) (rest := [.ref (b0 + 208)]) C hV hS (c_X10_in l G b0 V x1 0 ((V 208 11) - 1) q4 e4) q_1489 q_1490 q_151 q_1491 dk_X10_in (rm_ok (by decide) (by decide)) hl.1 rfl (Nat.le_of_ble_eq_true rfl) dX10_character_9 ⟨Nat.zero_le _, Nat.zero_le _⟩) hS (fun H locs hV hS => ?_)
  refine lv_if_eq (tgt := 19) hx hb dX10_character_12 (by decide) (fun b_5 => ?_) (fun b_5 => ?_)
  · have hr := it b_5 hr
    refine lv_iconst (v := 1) hx hb dX10_character_19 (by decide) ?_
    exact K_20 _ x1 1 hr _ _ ls hV hS (lv_sub hl [0, 1] rfl)
  · have hr := ie b_5 hr
    refine lv_iconst (v := 0) hx hb dX10_character_15 (by decide) ?_
    refine lv_goto (tgt := 20) hx hb dX10_character_16 (by decide) ?_
    exact K_20 _ x1 0 hr _ _ ls hV hS (lv_sub hl [0, 1] rfl)
set_option maxHeartbeats 4000000 in
set_option maxRecDepth 100000 in
theorem c_X10_allKnots (l : Launch) (G : LG) (b0 : Nat) (V : St) (res : Int32) (hr : f_X10_allKnots V = some res) : Met l yX10_allKnots (wy yX10_allKnots cX10_allKnots 1 (some .int)) (rm 1) (va_Pc [.ref (b0 + 208)] (Iv G b0 V)) (QI G b0 res V) 0 0 (Ab b0) := by
  refine mk_m (by decide +kernel) (Nat.le_of_ble_eq_true rfl) ?_
  intro p e s m below meth c C hV hS ls hl
  obtain ⟨args, hargs⟩ : ∃ z, z = ([.ref (b0 + 208)] : List Value).toArray := ⟨_, rfl⟩
  rw [← hargs] at C ⊢
  obtain ⟨hx, hb, hrt, hml, hown, hts, hlocks, hK, hSv⟩ := id C
  have hl : lv_has ls 1 [(0, .ref (b0 + 208))] := hl
  unfold f_X10_allKnots at hr
  refine lv_aload_n hx hb dX10_allKnots_0 rfl (lv_at hl 0 rfl) ?_
  refine lv_iconst (v := 0) hx hb dX10_allKnots_1 (by decide) ?_
  refine lv_iconst (v := 0) hx hb dX10_allKnots_2 (by decide) ?_
  obtain ⟨q1, e1, hr⟩ := ob hr
  refine cal_i (run_V (As := [.int 0, .int 0]) (rest := []) C hV hS (c_X10_of l G b0 V 0 0 q1 e1) (rcv hK hV (kd_lt z_208 (by decide)) (cel_20 z_208) rfl) q_1503 q_1505 q_98 q_151 q_1506 dk_X10_of (rm_ok (by decide) (by decide)) hl.1 rfl (Nat.le_of_ble_eq_true rfl) dX10_allKnots_3 ⟨Nat.zero_le _, Nat.zero_le _⟩) hS (fun H locs hV hS => ?_)
  refine lv_aload_n hx hb dX10_allKnots_6 rfl (lv_at hl 0 rfl) ?_
  refine lv_iconst (v := 0) hx hb dX10_allKnots_7 (by decide) ?_
  refine lv_iconst (v := 1) hx hb dX10_allKnots_8 (by decide) ?_
  obtain ⟨q2, e2, hr⟩ := ob hr
  refine cal_i (run_V (As := [.int 0, .int 1]) (rest := [.int q1]) C hV hS (c_X10_of l G b0 V 0 1 q2 e2) (rcv hK hV (kd_lt z_208 (by decide)) (cel_20 z_208) rfl) q_1503 q_1505 q_98 q_151 q_1506 dk_X10_of (rm_ok (by decide) (by decide)) hl.1 rfl (Nat.le_of_ble_eq_true rfl) dX10_allKnots_9 ⟨Nat.zero_le _, Nat.zero_le _⟩) hS (fun H locs hV hS => ?_)
  refine lv_ior hx hb dX10_allKnots_12 ?_
  obtain ⟨q3, e3, hr⟩ := ob hr
  refine cal_i (run_S (As := [.int (q1 ||| q2)]) (rest := []) C hV hS (c_X10_bits l G b0 V (q1 ||| q2) q3 e3) q_1595 q_1596 q_151 q_1597 dk_X10_bits (rm_ok (by decide) (by decide)) hl.1 rfl (Nat.le_of_ble_eq_true rfl) dX10_allKnots_13 ⟨Nat.zero_le _, Nat.zero_le _⟩) hS (fun H locs hV hS => ?_)
  refine lv_aload_n hx hb dX10_allKnots_16 rfl (lv_at hl 0 rfl) ?_
  refine lv_iconst (v := 1) hx hb dX10_allKnots_17 (by decide) ?_
  refine lv_iconst (v := 0) hx hb dX10_allKnots_18 (by decide) ?_
  obtain ⟨q4, e4, hr⟩ := ob hr
  refine cal_i (run_V (As := [.int 1, .int 0]) (rest := [.int q3]) C hV hS (c_X10_of l G b0 V 1 0 q4 e4) (rcv hK hV (kd_lt z_208 (by decide)) (cel_20 z_208) rfl) q_1503 q_1505 q_98 q_151 q_1506 dk_X10_of (rm_ok (by decide) (by decide)) hl.1 rfl (Nat.le_of_ble_eq_true rfl) dX10_allKnots_19 ⟨Nat.zero_le _, Nat.zero_le _⟩) hS (fun H locs hV hS => ?_)
  refine lv_aload_n hx hb dX10_allKnots_22 rfl (lv_at hl 0 rfl) ?_
  refine lv_iconst (v := 1) hx hb dX10_allKnots_23 (by decide) ?_
  refine lv_iconst (v := 1) hx hb dX10_allKnots_24 (by decide) ?_
  obtain ⟨q5, e5, hr⟩ := ob hr
  refine cal_i (run_V (As := [.int 1, .int 1]) (rest := [.int q4, .int q3]) C hV hS (c_X10_of l G b0 V 1 1 q5 e5) (rcv hK hV (kd_lt z_208 (by decide)) (cel_20 z_208) rfl) q_1503 q_1505 q_98 q_151 q_1506 dk_X10_of (rm_ok (by decide) (by decide)) hl.1 rfl (Nat.le_of_ble_eq_true rfl) dX10_allKnots_25 ⟨Nat.zero_le _, Nat.zero_le _⟩) hS (fun H locs hV hS => ?_)
  refine lv_ior hx hb dX10_allKnots_28 ?_
  obtain ⟨q6, e6, hr⟩ := ob hr
  refine cal_i (run_S (As := [.int (q4 ||| q5)]) (rest := [.int q3]) C hV hS (c_X10_bits l G b0 V (q4 ||| q5) q6 e6) q_1595 q_1596 q_151 q_1597 dk_X10_bits (rm_ok (by decide) (by decide)) hl.1 rfl (Nat.le_of_ble_eq_true rfl) dX10_allKnots_29 ⟨Nat.zero_le _, Nat.zero_le _⟩) hS (fun H locs hV hS => ?_)
  refine lv_iadd hx hb dX10_allKnots_32 ?_
  refine lv_aload_n hx hb dX10_allKnots_33 rfl (lv_at hl 0 rfl) ?_
  refine lv_iconst (v := 2) hx hb dX10_allKnots_34 (by decide) ?_
  refine lv_iconst (v := 0) hx hb dX10_allKnots_35 (by decide) ?_
  obtain ⟨q7, e7, hr⟩ := ob hr
  refine cal_i (run_V (As := [.int 2, .int 0]) (rest := [.int (q3 + q6)]) C hV hS (c_X10_of l G b0 V 2 0 q7 e7) (rcv hK hV (kd_lt z_208 (by decide)) (cel_20 z_208) rfl) q_1503 q_1505 q_98 q_151 q_1506 dk_X10_of (rm_ok (by decide) (by decide)) hl.1 rfl (Nat.le_of_ble_eq_true rfl) dX10_allKnots_36 ⟨Nat.zero_le _, Nat.zero_le _⟩) hS (fun H locs hV hS => ?_)
  refine lv_aload_n hx hb dX10_allKnots_39 rfl (lv_at hl 0 rfl) ?_
  refine lv_iconst (v := 2) hx hb dX10_allKnots_40 (by decide) ?_
  refine lv_iconst (v := 1) hx hb dX10_allKnots_41 (by decide) ?_
  obtain ⟨q8, e8, hr⟩ := ob hr
  refine cal_i (run_V (As := [.int 2, .int 1]) (rest := [.int q7, .int (q3 + q6)]) C hV hS (c_X10_of l G b0 V 2 1 q8 e8) (rcv hK hV (kd_lt z_208 (by decide)) (cel_20 z_208) rfl) q_1503 q_1505 q_98 q_151 q_1506 dk_X10_of (rm_ok (by decide) (by decide)) hl.1 rfl (Nat.le_of_ble_eq_true rfl) dX10_allKnots_42 ⟨Nat.zero_le _, Nat.zero_le _⟩) hS (fun H locs hV hS => ?_)
  refine lv_ior hx hb dX10_allKnots_45 ?_
  obtain ⟨q9, e9, hr⟩ := ob hr
  refine cal_i (run_S (As := [.int (q7 ||| q8)]) (rest := [.int (q3 + q6)]) C hV hS (c_X10_bits l G b0 V (q7 ||| q8) q9 e9) q_1595 q_1596 q_151 q_1597 dk_X10_bits (rm_ok (by decide) (by decide)) hl.1 rfl (Nat.le_of_ble_eq_true rfl) dX10_allKnots_46 ⟨Nat.zero_le _, Nat.zero_le _⟩) hS (fun H locs hV hS => ?_)
  refine lv_iadd hx hb dX10_allKnots_49 ?_
  exact fin_i C hV hS (Option.some.inj hr) dX10_allKnots_50
set_option maxHeartbeats 4000000 in
set_option maxRecDepth 100000 in
theorem c_X10_allChapters (l : Launch) (G : LG) (b0 : Nat) (V : St) (res : Int32 × St) (hr : f_X10_allChapters V = some res) : Met l yX10_allChapters (wy yX10_allChapters cX10_allChapters 1 (some .int)) (rm 4) (va_Pc [.ref (b0 + 208)] (Iv G b0 V)) (QI G b0 res.1 res.2) 0 0 (Ab b0) := by
  refine mk_m (by decide +kernel) (Nat.le_of_ble_eq_true rfl) ?_
  intro p e s m below meth c C hV hS ls hl
  obtain ⟨args, hargs⟩ : ∃ z, z = ([.ref (b0 + 208)] : List Value).toArray := ⟨_, rfl⟩
  rw [← hargs] at C ⊢
  obtain ⟨hx, hb, hrt, hml, hown, hts, hlocks, hK, hSv⟩ := id C
  have hl : lv_has ls 1 [(0, .ref (b0 + 208))] := hl
  unfold f_X10_allChapters at hr
  refine lv_aload_n hx hb dX10_allChapters_0 rfl (lv_at hl 0 rfl) ?_
  refine lv_iconst (v := 0) hx hb dX10_allChapters_1 (by decide) ?_
  obtain ⟨q1, e1, hr⟩ := ob hr
  refine cal_i (run_V (As := [.int 0]) (rest := []) C hV hS (c_X10_chaptersOf l G b0 V 0 q1 e1) (rcv hK hV (kd_lt z_208 (by decide)) (cel_20 z_208) rfl) q_1650 q_1652 q_121 q_151 q_1653 dk_X10_chaptersOf (rm_ok (by decide) (by decide)) hl.1 rfl (Nat.le_of_ble_eq_true rfl) dX10_allChapters_2 ⟨Nat.zero_le _, Nat.zero_le _⟩) hS (fun H locs hV hS => ?_)
  refine lv_aload_n hx hb dX10_allChapters_5 rfl (lv_at hl 0 rfl) ?_
  refine lv_iconst (v := 1) hx hb dX10_allChapters_6 (by decide) ?_
  obtain ⟨q2, e2, hr⟩ := ob hr
  refine cal_i (run_V (As := [.int 1]) (rest := [.int q1.1]) C hV hS (c_X10_chaptersOf l G b0 q1.2 1 q2 e2) (rcv hK hV (kd_lt z_208 (by decide)) (cel_20 z_208) rfl) q_1650 q_1652 q_121 q_151 q_1653 dk_X10_chaptersOf (rm_ok (by decide) (by decide)) hl.1 rfl (Nat.le_of_ble_eq_true rfl) dX10_allChapters_7 ⟨Nat.zero_le _, Nat.zero_le _⟩) hS (fun H locs hV hS => ?_)
  refine lv_iadd hx hb dX10_allChapters_10 ?_
  refine lv_aload_n hx hb dX10_allChapters_11 rfl (lv_at hl 0 rfl) ?_
  refine lv_iconst (v := 2) hx hb dX10_allChapters_12 (by decide) ?_
  obtain ⟨q3, e3, hr⟩ := ob hr
  refine cal_i (run_V (As := [.int 2]) (rest := [.int (q1.1 + q2.1)]) C hV hS (c_X10_chaptersOf l G b0 q2.2 2 q3 e3) (rcv hK hV (kd_lt z_208 (by decide)) (cel_20 z_208) rfl) q_1650 q_1652 q_121 q_151 q_1653 dk_X10_chaptersOf (rm_ok (by decide) (by decide)) hl.1 rfl (Nat.le_of_ble_eq_true rfl) dX10_allChapters_13 ⟨Nat.zero_le _, Nat.zero_le _⟩) hS (fun H locs hV hS => ?_)
  refine lv_iadd hx hb dX10_allChapters_16 ?_
  rw [← Option.some.inj hr]
  exact fin_i C hV hS rfl dX10_allChapters_17
set_option maxHeartbeats 4000000 in
set_option maxRecDepth 100000 in
theorem c_X10_meanKnots (l : Launch) (G : LG) (b0 : Nat) (V : St) (res : UInt64 × St) (hr : f_X10_meanKnots V = some res) : Met l yX10_meanKnots (wy yX10_meanKnots cX10_meanKnots 1 (some .double)) (rm 5) (va_Pc [.ref (b0 + 208)] (Iv G b0 V)) (QD G b0 res.1 res.2) 0 0 (Ab b0) := by
  refine mk_m (by decide +kernel) (Nat.le_of_ble_eq_true rfl) ?_
  intro p e s m below meth c C hV hS ls hl
  obtain ⟨args, hargs⟩ : ∃ z, z = ([.ref (b0 + 208)] : List Value).toArray := ⟨_, rfl⟩
  rw [← hargs] at C ⊢
  obtain ⟨hx, hb, hrt, hml, hown, hts, hlocks, hK, hSv⟩ := id C
  have hl : lv_has ls 1 [(0, .ref (b0 + 208))] := hl
  have K_13 : ∀ (V : St) (y0 : Int32), f_X10_meanKnots_b13 V y0 = some res → ∀ (H : Heap) (locs : List Loc) (ls : Array Slot), Hd G b0 V H → va_S (Ab b0) s.heap H locs → lv_has ls 1 [(0, .ref (b0 + 208))] → W p l e (rm 5) s m args below meth c H locs 0 0 (MQ below (QD G b0 res.1 res.2) args s 0 0 (Ab b0)) (F0 m 13 ls [.int y0, .ref (b0 + 208)]) := by
    intro V y0 hr H locs ls hV hS hl
    unfold f_X10_meanKnots_b13 at hr
    refine p_X10_0 (x := y0) C hV hS q_1391 dX10_meanKnots_13 (fun H locs hV hS => ?_)
    refine lv_aload_n hx hb dX10_meanKnots_16 rfl (lv_at hl 0 rfl) ?_
    refine g_X10_0 C hV q_1391 dX10_meanKnots_17 ?_
    refine lv_if_le (tgt := 27) hx hb dX10_meanKnots_20 (by decide) (fun b_1 => ?_) (fun b_1 => ?_)
    · have hr := it b_1 hr
      refine lv_aload_n hx hb dX10_meanKnots_27 rfl (lv_at hl 0 rfl) ?_
      obtain ⟨q2, e2, hr⟩ := ob hr
      refine cal_i (run_V (As := []) (rest := []) C hV hS (c_X10_allKnots l G b0 (up V 208 0 y0) q2 e2) (rcv hK hV (kd_lt z_208 (by decide)) (cel_20 z_208) rfl) q_1801 q_1803 q_137 q_151 q_1804 dk_X10_allKnots (rm_ok (by decide) (by decide)) hl.1 rfl (Nat.le_of_ble_eq_true rfl) dX10_meanKnots_28 ⟨Nat.zero_le _, Nat.zero_le _⟩) hS (fun H locs hV hS => ?_)
      refine lv_i2d hx hb dX10_meanKnots_31 ?_
      refine lv_aload_n hx hb dX10_meanKnots_32 rfl (lv_at hl 0 rfl) ?_
      obtain ⟨q3, e3, hr⟩ := ob hr
      refine cal_i (run_V (As := []) (rest := [.double (FP.i2d q2)]) C hV hS (c_X10_allChapters l G b0 (up V 208 0 y0) q3 e3) (rcv hK hV (kd_lt z_208 (by decide)) (cel_20 z_208) rfl) q_1797 q_1799 q_136 q_151 q_1800 dk_X10_allChapters (rm_ok (by decide) (by decide)) hl.1 rfl (Nat.le_of_ble_eq_true rfl) dX10_meanKnots_33 ⟨Nat.zero_le _, Nat.zero_le _⟩) hS (fun H locs hV hS => ?_)
      refine lv_i2d hx hb dX10_meanKnots_36 ?_
      obtain ⟨q4, e4, hr⟩ := ob hr
      obtain ⟨e4, g4⟩ := dv_in e4
      refine lv_ddiv hx hb dX10_meanKnots_37 g4 ?_
      rw [← e4]
      rw [← Option.some.inj hr]
      exact fin_d C hV hS rfl dX10_meanKnots_38
    · have hr := ie b_1 hr
      refine lv_dconst0 hx hb dX10_meanKnots_23 ?_
      refine lv_goto (tgt := 38) hx hb dX10_meanKnots_24 (by decide) ?_
      rw [← Option.some.inj hr]
      exact fin_d C hV hS rfl dX10_meanKnots_38
  unfold f_X10_meanKnots at hr
  refine lv_aload_n hx hb dX10_meanKnots_0 rfl (lv_at hl 0 rfl) ?_
  refine lv_aload_n hx hb dX10_meanKnots_1 rfl (lv_at hl 0 rfl) ?_
  obtain ⟨q5, e5, hr⟩ := ob hr
  refine cal_i (run_V (As := []) (rest := [.ref (b0 + 208)]) C hV hS (c_X10_allChapters l G b0 V q5 e5) (rcv hK hV (kd_lt z_208 (by decide)) (cel_20 z_208) rfl) q_1797 q_1799 q_136 q_151 q_1800 dk_X10_allChapters (rm_ok (by decide) (by decide)) hl.1 rfl (Nat.le_of_ble_eq_true rfl) dX10_meanKnots_2 ⟨Nat.zero_le _, Nat.zero_le _⟩) hS (fun H locs hV hS => ?_)
  refine lv_if_ne (tgt := 12) hx hb dX10_meanKnots_5 (by decide) (fun b_6 => ?_) (fun b_6 => ?_)
  · have hr := ie b_6 hr
    refine lv_iconst (v := 0) hx hb dX10_meanKnots_12 (by decide) ?_
    exact K_13 _ 0 hr _ _ ls hV hS (lv_sub hl [0] rfl)
  · have hr := it b_6 hr
    refine lv_iconst (v := 1) hx hb dX10_meanKnots_8 (by decide) ?_
    refine lv_goto (tgt := 13) hx hb dX10_meanKnots_9 (by decide) ?_
    exact K_13 _ 1 hr _ _ ls hV hS (lv_sub hl [0] rfl)
set_option maxHeartbeats 4000000 in
set_option maxRecDepth 100000 in
theorem c_X10_readShare (l : Launch) (G : LG) (b0 : Nat) (V : St) (res : UInt32 × St) (hr : f_X10_readShare V = some res) : Met l yX10_readShare (wy yX10_readShare cX10_readShare 1 (some .float)) (rm 4) (va_Pc [.ref (b0 + 208)] (Iv G b0 V)) (QF G b0 res.1 res.2) 0 0 (Ab b0) := by
  refine mk_m (by decide +kernel) (Nat.le_of_ble_eq_true rfl) ?_
  intro p e s m below meth c C hV hS ls hl
  obtain ⟨args, hargs⟩ : ∃ z, z = ([.ref (b0 + 208)] : List Value).toArray := ⟨_, rfl⟩
  rw [← hargs] at C ⊢
  obtain ⟨hx, hb, hrt, hml, hown, hts, hlocks, hK, hSv⟩ := id C
  have hl : lv_has ls 1 [(0, .ref (b0 + 208))] := hl
  have K_13 : ∀ (V : St) (y0 : Int32), f_X10_readShare_b13 V y0 = some res → ∀ (H : Heap) (locs : List Loc) (ls : Array Slot), Hd G b0 V H → va_S (Ab b0) s.heap H locs → lv_has ls 1 [(0, .ref (b0 + 208))] → W p l e (rm 4) s m args below meth c H locs 0 0 (MQ below (QF G b0 res.1 res.2) args s 0 0 (Ab b0)) (F0 m 13 ls [.int y0, .ref (b0 + 208)]) := by
    intro V y0 hr H locs ls hV hS hl
    unfold f_X10_readShare_b13 at hr
    refine p_X10_0 (x := y0) C hV hS q_1391 dX10_readShare_13 (fun H locs hV hS => ?_)
    refine lv_aload_n hx hb dX10_readShare_16 rfl (lv_at hl 0 rfl) ?_
    refine g_X10_0 C hV q_1391 dX10_readShare_17 ?_
    refine lv_if_le (tgt := 27) hx hb dX10_readShare_20 (by decide) (fun b_1 => ?_) (fun b_1 => ?_)
    · have hr := it b_1 hr
      refine lv_aload_n hx hb dX10_readShare_27 rfl (lv_at hl 0 rfl) ?_
      refine lv_iconst (v := 0) hx hb dX10_readShare_28 (by decide) ?_
      obtain ⟨q2, e2, hr⟩ := ob hr
      refine cal_i (run_V (As := [.int 0]) (rest := []) C hV hS (c_X10_readable l G b0 (up V 208 0 y0) 0 q2 e2) (rcv hK hV (kd_lt z_208 (by decide)) (cel_20 z_208) rfl) q_1583 q_1585 q_112 q_151 q_1586 dk_X10_readable (rm_ok (by decide) (by decide)) hl.1 rfl (Nat.le_of_ble_eq_true rfl) dX10_readShare_29 ⟨Nat.zero_le _, Nat.zero_le _⟩) hS (fun H locs hV hS => ?_)
      refine lv_aload_n hx hb dX10_readShare_32 rfl (lv_at hl 0 rfl) ?_
      refine lv_iconst (v := 1) hx hb dX10_readShare_33 (by decide) ?_
      obtain ⟨q3, e3, hr⟩ := ob hr
      refine cal_i (run_V (As := [.int 1]) (rest := [.int q2]) C hV hS (c_X10_readable l G b0 (up V 208 0 y0) 1 q3 e3) (rcv hK hV (kd_lt z_208 (by decide)) (cel_20 z_208) rfl) q_1583 q_1585 q_112 q_151 q_1586 dk_X10_readable (rm_ok (by decide) (by decide)) hl.1 rfl (Nat.le_of_ble_eq_true rfl) dX10_readShare_34 ⟨Nat.zero_le _, Nat.zero_le _⟩) hS (fun H locs hV hS => ?_)
      refine lv_iadd hx hb dX10_readShare_37 ?_
      refine lv_aload_n hx hb dX10_readShare_38 rfl (lv_at hl 0 rfl) ?_
      refine lv_iconst (v := 2) hx hb dX10_readShare_39 (by decide) ?_
      obtain ⟨q4, e4, hr⟩ := ob hr
      refine cal_i (run_V (As := [.int 2]) (rest := [.int (q2 + q3)]) C hV hS (c_X10_readable l G b0 (up V 208 0 y0) 2 q4 e4) (rcv hK hV (kd_lt z_208 (by decide)) (cel_20 z_208) rfl) q_1583 q_1585 q_112 q_151 q_1586 dk_X10_readable (rm_ok (by decide) (by decide)) hl.1 rfl (Nat.le_of_ble_eq_true rfl) dX10_readShare_40 ⟨Nat.zero_le _, Nat.zero_le _⟩) hS (fun H locs hV hS => ?_)
      refine lv_iadd hx hb dX10_readShare_43 ?_
      refine lv_i2f hx hb dX10_readShare_44 ?_
      refine lv_aload_n hx hb dX10_readShare_45 rfl (lv_at hl 0 rfl) ?_
      obtain ⟨q5, e5, hr⟩ := ob hr
      refine cal_i (run_V (As := []) (rest := [.float (FP.i2f ((q2 + q3) + q4))]) C hV hS (c_X10_allKnots l G b0 (up V 208 0 y0) q5 e5) (rcv hK hV (kd_lt z_208 (by decide)) (cel_20 z_208) rfl) q_1801 q_1803 q_137 q_151 q_1804 dk_X10_allKnots (rm_ok (by decide) (by decide)) hl.1 rfl (Nat.le_of_ble_eq_true rfl) dX10_readShare_46 ⟨Nat.zero_le _, Nat.zero_le _⟩) hS (fun H locs hV hS => ?_)
      refine lv_i2f hx hb dX10_readShare_49 ?_
      obtain ⟨q6, e6, hr⟩ := ob hr
      obtain ⟨e6, g6⟩ := fv_in e6
      refine lv_fdiv hx hb dX10_readShare_50 g6 ?_
      rw [← e6]
      rw [← Option.some.inj hr]
      exact fin_f C hV hS rfl dX10_readShare_51
    · have hr := ie b_1 hr
      refine lv_fconst0 hx hb dX10_readShare_23 ?_
      refine lv_goto (tgt := 51) hx hb dX10_readShare_24 (by decide) ?_
      rw [← Option.some.inj hr]
      exact fin_f C hV hS rfl dX10_readShare_51
  unfold f_X10_readShare at hr
  refine lv_aload_n hx hb dX10_readShare_0 rfl (lv_at hl 0 rfl) ?_
  refine lv_aload_n hx hb dX10_readShare_1 rfl (lv_at hl 0 rfl) ?_
  obtain ⟨q7, e7, hr⟩ := ob hr
  refine cal_i (run_V (As := []) (rest := [.ref (b0 + 208)]) C hV hS (c_X10_allKnots l G b0 V q7 e7) (rcv hK hV (kd_lt z_208 (by decide)) (cel_20 z_208) rfl) q_1801 q_1803 q_137 q_151 q_1804 dk_X10_allKnots (rm_ok (by decide) (by decide)) hl.1 rfl (Nat.le_of_ble_eq_true rfl) dX10_readShare_2 ⟨Nat.zero_le _, Nat.zero_le _⟩) hS (fun H locs hV hS => ?_)
  refine lv_if_ne (tgt := 12) hx hb dX10_readShare_5 (by decide) (fun b_8 => ?_) (fun b_8 => ?_)
  · have hr := ie b_8 hr
    refine lv_iconst (v := 0) hx hb dX10_readShare_12 (by decide) ?_
    exact K_13 _ 0 hr _ _ ls hV hS (lv_sub hl [0] rfl)
  · have hr := it b_8 hr
    refine lv_iconst (v := 1) hx hb dX10_readShare_8 (by decide) ?_
    refine lv_goto (tgt := 13) hx hb dX10_readShare_9 (by decide) ?_
    exact K_13 _ 1 hr _ _ ls hV hS (lv_sub hl [0] rfl)
set_option maxHeartbeats 4000000 in
set_option maxRecDepth 100000 in
theorem c_X10_allTwine (l : Launch) (G : LG) (b0 : Nat) (V : St) (res : Int32) (hr : f_X10_allTwine V = some res) : Met l yX10_allTwine (wy yX10_allTwine cX10_allTwine 3 (some .int)) (rm 0) (va_Pc [.ref (b0 + 208)] (Iv G b0 V)) (QI G b0 res V) 0 0 (Ab b0) := by
  refine mk_m (by decide +kernel) (Nat.le_of_ble_eq_true rfl) ?_
  intro p e s m below meth c C hV hS ls hl
  obtain ⟨args, hargs⟩ : ∃ z, z = ([.ref (b0 + 208)] : List Value).toArray := ⟨_, rfl⟩
  rw [← hargs] at C ⊢
  obtain ⟨hx, hb, hrt, hml, hown, hts, hlocks, hK, hSv⟩ := id C
  have hl : lv_has ls 3 [(0, .ref (b0 + 208))] := hl
  have K_4 : ∀ (n : Nat) (x1 : Int32) (x2 : Int32), f_X10_allTwine_b4 n V x1 x2 = some res → ∀ (H : Heap) (locs : List Loc) (ls : Array Slot), Hd G b0 V H → va_S (Ab b0) s.heap H locs → lv_has ls 3 [(0, .ref (b0 + 208)), (1, .int x1), (2, .int x2)] → W p l e (rm 0) s m args below meth c H locs 0 0 (MQ below (QI G b0 res V) args s 0 0 (Ab b0)) (F0 m 4 ls []) := by
    intro  n
    induction n with
    | zero =>
      intro x1 x2 hr
      rw [f_X10_allTwine_b4] at hr
      cases hr
    | succ n ih =>
      intro x1 x2 hr H locs ls hV hS hl
      rw [f_X10_allTwine_b4] at hr
      refine lv_iload_n hx hb dX10_allTwine_4 rfl (lv_at hl 2 rfl) ?_
      refine lv_aload_n hx hb dX10_allTwine_5 rfl (lv_at hl 0 rfl) ?_
      refine g_X10_1 C hV q_1392 dX10_allTwine_6 ?_
      refine lv_iconst (v := 1) hx hb dX10_allTwine_9 (by decide) ?_
      refine a_21 (k := 209) (i := 1) (j := 1) C hV z_209 (by decide) dX10_allTwine_10 ?_
      refine lv_icmp_ge (tgt := 34) hx hb dX10_allTwine_11 (by decide) (fun b_1 => ?_) (fun b_1 => ?_)
      · have hr := it b_1 hr
        refine lv_iload_n hx hb dX10_allTwine_34 rfl (lv_at hl 1 rfl) ?_
        exact fin_i C hV hS (Option.some.inj hr) dX10_allTwine_35
      · have hr := ie b_1 hr
        refine lv_iload_n hx hb dX10_allTwine_14 rfl (lv_at hl 1 rfl) ?_
        refine lv_aload_n hx hb dX10_allTwine_15 rfl (lv_at hl 0 rfl) ?_
        refine g_X10_1 C hV q_1392 dX10_allTwine_16 ?_
        refine lv_bipush (v := 21) hx hb dX10_allTwine_19 (by decide) ?_
        refine lv_iconst (v := 2) hx hb dX10_allTwine_21 (by decide) ?_
        refine lv_iload_n hx hb dX10_allTwine_22 rfl (lv_at hl 2 rfl) ?_
        refine lv_imul hx hb dX10_allTwine_23 ?_
        refine lv_iadd hx hb dX10_allTwine_24 ?_
        obtain ⟨j2, e2, hr⟩ := ob hr
        refine a_21 (k := 209) (i := (21 + (2 * x2))) (j := j2) C hV z_209 e2 dX10_allTwine_25 ?_
        refine lv_iadd hx hb dX10_allTwine_26 ?_
        refine lv_istore_n (lv' := [(1, .int (x1 + (V 209 j2))), (0, .ref (b0 + 208)), (2, .int x2)]) hx hb dX10_allTwine_27 rfl hl (by decide) rfl (fun ls hl => ?_)
        refine lv_iinc (v := x2 + 1) (lv' := [(2, .int (x2 + 1)), (1, .int (x1 + (V 209 j2))), (0, .ref (b0 + 208))]) hx hb dX10_allTwine_28 hl (k := 2) rfl rfl (by decide) rfl (fun ls hl => ?_)
        refine lv_goto (tgt := 4) hx hb dX10_allTwine_31 (by decide) ?_
        exact ih (x1 + (V 209 j2)) (x2 + 1) hr _ _ ls hV hS (lv_sub hl [2, 1, 0] rfl)
  unfold f_X10_allTwine at hr
  refine lv_iconst (v := 0) hx hb dX10_allTwine_0 (by decide) ?_
  refine lv_istore_n (lv' := [(1, .int 0), (0, .ref (b0 + 208))]) hx hb dX10_allTwine_1 rfl hl (by decide) rfl (fun ls hl => ?_)
  refine lv_iconst (v := 0) hx hb dX10_allTwine_2 (by decide) ?_
  refine lv_istore_n (lv' := [(2, .int 0), (1, .int 0), (0, .ref (b0 + 208))]) hx hb dX10_allTwine_3 rfl hl (by decide) rfl (fun ls hl => ?_)
  exact K_4 500 0 0 hr _ _ ls hV hS (lv_sub hl [2, 1, 0] rfl)
set_option maxHeartbeats 4000000 in
set_option maxRecDepth 100000 in
theorem c_X10_readSo (l : Launch) (G : LG) (b0 : Nat) (V : St) (res : Int32 × St) (hr : f_X10_readSo V = some res) : Met l yX10_readSo (wy yX10_readSo cX10_readSo 3 (some .int)) (rm 3) (va_Pc [.ref (b0 + 208)] (Iv G b0 V)) (QI G b0 res.1 res.2) 0 0 (Ab b0) := by
  refine mk_m (by decide +kernel) (Nat.le_of_ble_eq_true rfl) ?_
  intro p e s m below meth c C hV hS ls hl
  obtain ⟨args, hargs⟩ : ∃ z, z = ([.ref (b0 + 208)] : List Value).toArray := ⟨_, rfl⟩
  rw [← hargs] at C ⊢
  obtain ⟨hx, hb, hrt, hml, hown, hts, hlocks, hK, hSv⟩ := id C
  have hl : lv_has ls 3 [(0, .ref (b0 + 208))] := hl
  have K_28 : ∀ (c_4 : St → Int32 → Int32 → Option (Int32 × St)) (hc_4 : ∀ (V : St) (x1 : Int32) (x2 : Int32), c_4 V x1 x2 = some res → ∀ (H : Heap) (locs : List Loc) (ls : Array Slot), Hd G b0 V H → va_S (Ab b0) s.heap H locs → lv_has ls 3 [(0, .ref (b0 + 208)), (1, .int x1), (2, .int x2)] → W p l e (rm 3) s m args below meth c H locs 0 0 (MQ below (QI G b0 res.1 res.2) args s 0 0 (Ab b0)) (F0 m 4 ls [])) (V : St) (x2 : Int32) (y0 : Int32) (y1 : Int32), f_X10_readSo_b28 c_4 V x2 y0 y1 = some res → ∀ (H : Heap) (locs : List Loc) (ls : Array Slot), Hd G b0 V H → va_S (Ab b0) s.heap H locs → lv_has ls 3 [(0, .ref (b0 + 208)), (2, .int x2)] → W p l e (rm 3) s m args below meth c H locs 0 0 (MQ below (QI G b0 res.1 res.2) args s 0 0 (Ab b0)) (F0 m 28 ls [.int y0, .int y1]) := by
    intro c_4 hc_4 V x2 y0 y1 hr H locs ls hV hS hl
    unfold f_X10_readSo_b28 at hr
    refine lv_iadd hx hb dX10_readSo_28 ?_
    refine lv_istore_n (lv' := [(1, .int (y1 + y0)), (0, .ref (b0 + 208)), (2, .int x2)]) hx hb dX10_readSo_29 rfl hl (by decide) rfl (fun ls hl => ?_)
    refine lv_iinc (v := x2 + 1) (lv' := [(2, .int (x2 + 1)), (1, .int (y1 + y0)), (0, .ref (b0 + 208))]) hx hb dX10_readSo_30 hl (k := 2) rfl rfl (by decide) rfl (fun ls hl => ?_)
    refine lv_goto (tgt := 4) hx hb dX10_readSo_33 (by decide) ?_
    exact hc_4 _ (y1 + y0) (x2 + 1) hr _ _ ls hV hS (lv_sub hl [2, 1, 0] rfl)
  have K_4 : ∀ (n : Nat) (V : St) (x1 : Int32) (x2 : Int32), f_X10_readSo_b4 n V x1 x2 = some res → ∀ (H : Heap) (locs : List Loc) (ls : Array Slot), Hd G b0 V H → va_S (Ab b0) s.heap H locs → lv_has ls 3 [(0, .ref (b0 + 208)), (1, .int x1), (2, .int x2)] → W p l e (rm 3) s m args below meth c H locs 0 0 (MQ below (QI G b0 res.1 res.2) args s 0 0 (Ab b0)) (F0 m 4 ls []) := by
    intro  n
    induction n with
    | zero =>
      intro V x1 x2 hr
      rw [f_X10_readSo_b4] at hr
      cases hr
    | succ n ih =>
      intro V x1 x2 hr H locs ls hV hS hl
      rw [f_X10_readSo_b4] at hr
      refine lv_iload_n hx hb dX10_readSo_4 rfl (lv_at hl 2 rfl) ?_
      refine lv_aload_n hx hb dX10_readSo_5 rfl (lv_at hl 0 rfl) ?_
      refine g_X10_1 C hV q_1392 dX10_readSo_6 ?_
      refine lv_iconst (v := 2) hx hb dX10_readSo_9 (by decide) ?_
      refine a_21 (k := 209) (i := 2) (j := 2) C hV z_209 (by decide) dX10_readSo_10 ?_
      refine lv_icmp_ge (tgt := 36) hx hb dX10_readSo_11 (by decide) (fun b_1 => ?_) (fun b_1 => ?_)
      · have hr := it b_1 hr
        refine lv_iload_n hx hb dX10_readSo_36 rfl (lv_at hl 1 rfl) ?_
        rw [← Option.some.inj hr]
        exact fin_i C hV hS rfl dX10_readSo_37
      · have hr := ie b_1 hr
        refine lv_iload_n hx hb dX10_readSo_14 rfl (lv_at hl 1 rfl) ?_
        refine lv_aload_n hx hb dX10_readSo_15 rfl (lv_at hl 0 rfl) ?_
        refine lv_iload_n hx hb dX10_readSo_16 rfl (lv_at hl 2 rfl) ?_
        obtain ⟨q2, e2, hr⟩ := ob hr
        refine cal_i (run_V (As := [.int x2]) (rest := [.int x1]) C hV hS (c_X10_readsSo l G b0 V x2 q2 e2) (rcv hK hV (kd_lt z_208 (by decide)) (cel_20 z_208) rfl) q_1671 q_1673 q_123 q_151 q_1674 dk_X10_readsSo (rm_ok (by decide) (by decide)) hl.1 rfl (Nat.le_of_ble_eq_true rfl) dX10_readSo_17 ⟨Nat.zero_le _, Nat.zero_le _⟩) hS (fun H locs hV hS => ?_)
        refine lv_if_eq (tgt := 27) hx hb dX10_readSo_20 (by decide) (fun b_3 => ?_) (fun b_3 => ?_)
        · have hr := it b_3 hr
          refine lv_iconst (v := 0) hx hb dX10_readSo_27 (by decide) ?_
          exact K_28 (fun V x1 x2 => f_X10_readSo_b4 n V x1 x2) (fun V x1 x2 hr => ih V x1 x2 hr) _ x2 0 x1 hr _ _ ls hV hS (lv_sub hl [0, 2] rfl)
        · have hr := ie b_3 hr
          refine lv_iconst (v := 1) hx hb dX10_readSo_23 (by decide) ?_
          refine lv_goto (tgt := 28) hx hb dX10_readSo_24 (by decide) ?_
          exact K_28 (fun V x1 x2 => f_X10_readSo_b4 n V x1 x2) (fun V x1 x2 hr => ih V x1 x2 hr) _ x2 1 x1 hr _ _ ls hV hS (lv_sub hl [0, 2] rfl)
  unfold f_X10_readSo at hr
  refine lv_iconst (v := 0) hx hb dX10_readSo_0 (by decide) ?_
  refine lv_istore_n (lv' := [(1, .int 0), (0, .ref (b0 + 208))]) hx hb dX10_readSo_1 rfl hl (by decide) rfl (fun ls hl => ?_)
  refine lv_iconst (v := 0) hx hb dX10_readSo_2 (by decide) ?_
  refine lv_istore_n (lv' := [(2, .int 0), (1, .int 0), (0, .ref (b0 + 208))]) hx hb dX10_readSo_3 rfl hl (by decide) rfl (fun ls hl => ?_)
  exact K_4 500 _ 0 0 hr _ _ ls hV hS (lv_sub hl [2, 1, 0] rfl)
set_option maxHeartbeats 4000000 in
set_option maxRecDepth 100000 in
theorem c_X10_account (l : Launch) (G : LG) (b0 : Nat) (V : St) (x1 : Int32) (res : Int32 × St) (hr : f_X10_account V x1 = some res) : Met l yX10_account (wy yX10_account cX10_account 2 (some .int)) (rm 5) (va_Pc [.ref (b0 + 208), .int x1] (Iv G b0 V)) (QI G b0 res.1 res.2) 0 0 (Ab b0) := by
  refine mk_m (by decide +kernel) (Nat.le_of_ble_eq_true rfl) ?_
  intro p e s m below meth c C hV hS ls hl
  obtain ⟨args, hargs⟩ : ∃ z, z = ([.ref (b0 + 208), .int x1] : List Value).toArray := ⟨_, rfl⟩
  rw [← hargs] at C ⊢
  obtain ⟨hx, hb, hrt, hml, hown, hts, hlocks, hK, hSv⟩ := id C
  have hl : lv_has ls 2 [(0, .ref (b0 + 208)), (1, .int x1)] := hl
  unfold f_X10_account at hr
  refine lv_aload_n hx hb dX10_account_0 rfl (lv_at hl 0 rfl) ?_
  refine lv_iconst (v := 0) hx hb dX10_account_1 (by decide) ?_
  refine p_X10_0 (x := 0) C hV hS q_1391 dX10_account_2 (fun H locs hV hS => ?_)
  refine lv_iload_n hx hb dX10_account_5 rfl (lv_at hl 1 rfl) ?_
  by_cases b_1 : x1 = 0
  · have hr := it b_1 hr
    refine lv_tableIn (off := 66) (tgt := 72) hx hb dX10_account_6 (by rw [b_1]; decide) (by rw [b_1]; decide) (by rw [b_1]; decide +kernel) (by decide) ?_
    refine lv_aload_n hx hb dX10_account_72 rfl (lv_at hl 0 rfl) ?_
    obtain ⟨q2, e2, hr⟩ := ob hr
    refine cal_i (run_V (As := []) (rest := []) C hV hS (c_X10_allKnots l G b0 (up V 208 0 0) q2 e2) (rcv hK hV (kd_lt z_208 (by decide)) (cel_20 z_208) rfl) q_1801 q_1803 q_137 q_151 q_1804 dk_X10_allKnots (rm_ok (by decide) (by decide)) hl.1 rfl (Nat.le_of_ble_eq_true rfl) dX10_account_73 ⟨Nat.zero_le _, Nat.zero_le _⟩) hS (fun H locs hV hS => ?_)
    rw [← Option.some.inj hr]
    exact fin_i C hV hS rfl dX10_account_76
  have hr := ie b_1 hr
  by_cases b_3 : x1 = 1
  · have hr := it b_3 hr
    refine lv_tableIn (off := 71) (tgt := 77) hx hb dX10_account_6 (by rw [b_3]; decide) (by rw [b_3]; decide) (by rw [b_3]; decide +kernel) (by decide) ?_
    refine lv_aload_n hx hb dX10_account_77 rfl (lv_at hl 0 rfl) ?_
    obtain ⟨q4, e4, hr⟩ := ob hr
    refine cal_i (run_V (As := []) (rest := []) C hV hS (c_X10_allChapters l G b0 (up V 208 0 0) q4 e4) (rcv hK hV (kd_lt z_208 (by decide)) (cel_20 z_208) rfl) q_1797 q_1799 q_136 q_151 q_1800 dk_X10_allChapters (rm_ok (by decide) (by decide)) hl.1 rfl (Nat.le_of_ble_eq_true rfl) dX10_account_78 ⟨Nat.zero_le _, Nat.zero_le _⟩) hS (fun H locs hV hS => ?_)
    rw [← Option.some.inj hr]
    exact fin_i C hV hS rfl dX10_account_81
  have hr := ie b_3 hr
  by_cases b_5 : x1 = 2
  · have hr := it b_5 hr
    refine lv_tableIn (off := 76) (tgt := 82) hx hb dX10_account_6 (by rw [b_5]; decide) (by rw [b_5]; decide) (by rw [b_5]; decide +kernel) (by decide) ?_
    refine lv_aload_n hx hb dX10_account_82 rfl (lv_at hl 0 rfl) ?_
    refine lv_iconst (v := 0) hx hb dX10_account_83 (by decide) ?_
    obtain ⟨q6, e6, hr⟩ := ob hr
    refine cal_i (run_V (As := [.int 0]) (rest := []) C hV hS (c_X10_tornIn l G b0 (up V 208 0 0) 0 q6 e6) (rcv hK hV (kd_lt z_208 (by decide)) (cel_20 z_208) rfl) q_1638 q_1640 q_119 q_151 q_1641 dk_X10_tornIn (rm_ok (by decide) (by decide)) hl.1 rfl (Nat.le_of_ble_eq_true rfl) dX10_account_84 ⟨Nat.zero_le _, Nat.zero_le _⟩) hS (fun H locs hV hS => ?_)
    refine lv_aload_n hx hb dX10_account_87 rfl (lv_at hl 0 rfl) ?_
    refine lv_iconst (v := 1) hx hb dX10_account_88 (by decide) ?_
    obtain ⟨q7, e7, hr⟩ := ob hr
    refine cal_i (run_V (As := [.int 1]) (rest := [.int q6]) C hV hS (c_X10_tornIn l G b0 (up V 208 0 0) 1 q7 e7) (rcv hK hV (kd_lt z_208 (by decide)) (cel_20 z_208) rfl) q_1638 q_1640 q_119 q_151 q_1641 dk_X10_tornIn (rm_ok (by decide) (by decide)) hl.1 rfl (Nat.le_of_ble_eq_true rfl) dX10_account_89 ⟨Nat.zero_le _, Nat.zero_le _⟩) hS (fun H locs hV hS => ?_)
    refine lv_iadd hx hb dX10_account_92 ?_
    refine lv_aload_n hx hb dX10_account_93 rfl (lv_at hl 0 rfl) ?_
    refine lv_iconst (v := 2) hx hb dX10_account_94 (by decide) ?_
    obtain ⟨q8, e8, hr⟩ := ob hr
    refine cal_i (run_V (As := [.int 2]) (rest := [.int (q6 + q7)]) C hV hS (c_X10_tornIn l G b0 (up V 208 0 0) 2 q8 e8) (rcv hK hV (kd_lt z_208 (by decide)) (cel_20 z_208) rfl) q_1638 q_1640 q_119 q_151 q_1641 dk_X10_tornIn (rm_ok (by decide) (by decide)) hl.1 rfl (Nat.le_of_ble_eq_true rfl) dX10_account_95 ⟨Nat.zero_le _, Nat.zero_le _⟩) hS (fun H locs hV hS => ?_)
    refine lv_iadd hx hb dX10_account_98 ?_
    rw [← Option.some.inj hr]
    exact fin_i C hV hS rfl dX10_account_99
  have hr := ie b_5 hr
  by_cases b_9 : x1 = 3
  · have hr := it b_9 hr
    refine lv_tableIn (off := 94) (tgt := 100) hx hb dX10_account_6 (by rw [b_9]; decide) (by rw [b_9]; decide) (by rw [b_9]; decide +kernel) (by decide) ?_
    refine lv_aload_n hx hb dX10_account_100 rfl (lv_at hl 0 rfl) ?_
    refine g_X10_1 C hV q_1392 dX10_account_101 ?_
    refine lv_iconst (v := 1) hx hb dX10_account_104 (by decide) ?_
    refine a_21 (k := 209) (i := 1) (j := 1) C hV z_209 (by decide) dX10_account_105 ?_
    rw [← Option.some.inj hr]
    exact fin_i C hV hS rfl dX10_account_106
  have hr := ie b_9 hr
  by_cases b_10 : x1 = 4
  · have hr := it b_10 hr
    refine lv_tableIn (off := 101) (tgt := 107) hx hb dX10_account_6 (by rw [b_10]; decide) (by rw [b_10]; decide) (by rw [b_10]; decide +kernel) (by decide) ?_
    refine lv_aload_n hx hb dX10_account_107 rfl (lv_at hl 0 rfl) ?_
    obtain ⟨q11, e11, hr⟩ := ob hr
    refine cal_i (run_V (As := []) (rest := []) C hV hS (c_X10_allTwine l G b0 (up V 208 0 0) q11 e11) (rcv hK hV (kd_lt z_208 (by decide)) (cel_20 z_208) rfl) q_1813 q_1815 q_138 q_151 q_1816 dk_X10_allTwine (rm_ok (by decide) (by decide)) hl.1 rfl (Nat.le_of_ble_eq_true rfl) dX10_account_108 ⟨Nat.zero_le _, Nat.zero_le _⟩) hS (fun H locs hV hS => ?_)
    rw [← Option.some.inj hr]
    exact fin_i C hV hS rfl dX10_account_111
  have hr := ie b_10 hr
  by_cases b_12 : x1 = 5
  · have hr := it b_12 hr
    refine lv_tableIn (off := 106) (tgt := 112) hx hb dX10_account_6 (by rw [b_12]; decide) (by rw [b_12]; decide) (by rw [b_12]; decide +kernel) (by decide) ?_
    refine lv_aload_n hx hb dX10_account_112 rfl (lv_at hl 0 rfl) ?_
    refine g_X10_1 C hV q_1392 dX10_account_113 ?_
    refine lv_iconst (v := 2) hx hb dX10_account_116 (by decide) ?_
    refine a_21 (k := 209) (i := 2) (j := 2) C hV z_209 (by decide) dX10_account_117 ?_
    rw [← Option.some.inj hr]
    exact fin_i C hV hS rfl dX10_account_118
  have hr := ie b_12 hr
  by_cases b_13 : x1 = 6
  · have hr := it b_13 hr
    refine lv_tableIn (off := 113) (tgt := 119) hx hb dX10_account_6 (by rw [b_13]; decide) (by rw [b_13]; decide) (by rw [b_13]; decide +kernel) (by decide) ?_
    refine lv_aload_n hx hb dX10_account_119 rfl (lv_at hl 0 rfl) ?_
    obtain ⟨q14, e14, hr⟩ := ob hr
    refine cal_i (run_V (As := []) (rest := []) C hV hS (c_X10_readSo l G b0 (up V 208 0 0) q14 e14) (rcv hK hV (kd_lt z_208 (by decide)) (cel_20 z_208) rfl) q_1817 q_1819 q_139 q_151 q_1820 dk_X10_readSo (rm_ok (by decide) (by decide)) hl.1 rfl (Nat.le_of_ble_eq_true rfl) dX10_account_120 ⟨Nat.zero_le _, Nat.zero_le _⟩) hS (fun H locs hV hS => ?_)
    rw [← Option.some.inj hr]
    exact fin_i C hV hS rfl dX10_account_123
  have hr := ie b_13 hr
  by_cases b_15 : x1 = 7
  · have hr := it b_15 hr
    refine lv_tableIn (off := 118) (tgt := 124) hx hb dX10_account_6 (by rw [b_15]; decide) (by rw [b_15]; decide) (by rw [b_15]; decide +kernel) (by decide) ?_
    refine lv_aload_n hx hb dX10_account_124 rfl (lv_at hl 0 rfl) ?_
    refine g_X10_1 C hV q_1392 dX10_account_125 ?_
    refine lv_iconst (v := 0) hx hb dX10_account_128 (by decide) ?_
    refine a_21 (k := 209) (i := 0) (j := 0) C hV z_209 (by decide) dX10_account_129 ?_
    rw [← Option.some.inj hr]
    exact fin_i C hV hS rfl dX10_account_130
  have hr := ie b_15 hr
  by_cases b_16 : x1 = 8
  · have hr := it b_16 hr
    refine lv_tableIn (off := 125) (tgt := 131) hx hb dX10_account_6 (by rw [b_16]; decide) (by rw [b_16]; decide) (by rw [b_16]; decide +kernel) (by decide) ?_
    refine lv_aload_n hx hb dX10_account_131 rfl (lv_at hl 0 rfl) ?_
    refine g_X10_1 C hV q_1392 dX10_account_132 ?_
    refine lv_iconst (v := 3) hx hb dX10_account_135 (by decide) ?_
    refine a_21 (k := 209) (i := 3) (j := 3) C hV z_209 (by decide) dX10_account_136 ?_
    rw [← Option.some.inj hr]
    exact fin_i C hV hS rfl dX10_account_137
  have hr := ie b_16 hr
  by_cases b_17 : x1 = 9
  · have hr := it b_17 hr
    refine lv_tableIn (off := 132) (tgt := 138) hx hb dX10_account_6 (by rw [b_17]; decide) (by rw [b_17]; decide) (by rw [b_17]; decide +kernel) (by decide) ?_
    refine lv_aload_n hx hb dX10_account_138 rfl (lv_at hl 0 rfl) ?_
    refine g_X10_1 C hV q_1392 dX10_account_139 ?_
    refine lv_iconst (v := 4) hx hb dX10_account_142 (by decide) ?_
    refine a_21 (k := 209) (i := 4) (j := 4) C hV z_209 (by decide) dX10_account_143 ?_
    rw [← Option.some.inj hr]
    exact fin_i C hV hS rfl dX10_account_144
  have hr := ie b_17 hr
  by_cases b_18 : x1 = 10
  · have hr := it b_18 hr
    refine lv_tableIn (off := 139) (tgt := 145) hx hb dX10_account_6 (by rw [b_18]; decide) (by rw [b_18]; decide) (by rw [b_18]; decide +kernel) (by decide) ?_
    refine lv_aload_n hx hb dX10_account_145 rfl (lv_at hl 0 rfl) ?_
    refine g_X10_1 C hV q_1392 dX10_account_146 ?_
    refine lv_iconst (v := 5) hx hb dX10_account_149 (by decide) ?_
    refine a_21 (k := 209) (i := 5) (j := 5) C hV z_209 (by decide) dX10_account_150 ?_
    rw [← Option.some.inj hr]
    exact fin_i C hV hS rfl dX10_account_151
  have hr := ie b_18 hr
  by_cases b_19 : x1 = 11
  · have hr := it b_19 hr
    refine lv_tableIn (off := 146) (tgt := 152) hx hb dX10_account_6 (by rw [b_19]; decide) (by rw [b_19]; decide) (by rw [b_19]; decide +kernel) (by decide) ?_
    refine lv_aload_n hx hb dX10_account_152 rfl (lv_at hl 0 rfl) ?_
    refine g_X10_10 C hV q_1401 dX10_account_153 ?_
    rw [← Option.some.inj hr]
    exact fin_i C hV hS rfl dX10_account_156
  have hr := ie b_19 hr
  by_cases b_20 : x1 = 12
  · have hr := it b_20 hr
    refine lv_tableIn (off := 151) (tgt := 157) hx hb dX10_account_6 (by rw [b_20]; decide) (by rw [b_20]; decide) (by rw [b_20]; decide +kernel) (by decide) ?_
    refine lv_aload_n hx hb dX10_account_157 rfl (lv_at hl 0 rfl) ?_
    refine g_X10_5 C hV q_1396 dX10_account_158 ?_
    rw [← Option.some.inj hr]
    exact fin_i C hV hS rfl dX10_account_161
  have hr := ie b_20 hr
  have n_1 := lv_neT (a := 0) b_1 (by decide)
  have n_3 := lv_neT (a := 1) b_3 (by decide)
  have n_5 := lv_neT (a := 2) b_5 (by decide)
  have n_9 := lv_neT (a := 3) b_9 (by decide)
  have n_10 := lv_neT (a := 4) b_10 (by decide)
  have n_12 := lv_neT (a := 5) b_12 (by decide)
  have n_13 := lv_neT (a := 6) b_13 (by decide)
  have n_15 := lv_neT (a := 7) b_15 (by decide)
  have n_16 := lv_neT (a := 8) b_16 (by decide)
  have n_17 := lv_neT (a := 9) b_17 (by decide)
  have n_18 := lv_neT (a := 10) b_18 (by decide)
  have n_19 := lv_neT (a := 11) b_19 (by decide)
  have n_20 := lv_neT (a := 12) b_20 (by decide)
  refine lv_tableOut (tgt := 162) hx hb dX10_account_6 (by omega) (by decide) ?_
  refine lv_aload_n hx hb dX10_account_162 rfl (lv_at hl 0 rfl) ?_
  refine lv_iconst (v := 1) hx hb dX10_account_163 (by decide) ?_
  obtain ⟨q21, e21, hr⟩ := ob hr
  refine cal_i (run_V (As := [.int 1]) (rest := []) C hV hS (c_X10_fails l G b0 (up V 208 0 0) 1 q21 e21) (rcv hK hV (kd_lt z_208 (by decide)) (cel_20 z_208) rfl) q_1523 q_1525 q_103 q_151 q_1526 dk_X10_fails (rm_ok (by decide) (by decide)) hl.1 rfl (Nat.le_of_ble_eq_true rfl) dX10_account_164 ⟨Nat.zero_le _, Nat.zero_le _⟩) hS (fun H locs hV hS => ?_)
  rw [← Option.some.inj hr]
  exact fin_i C hV hS rfl dX10_account_167
set_option maxHeartbeats 4000000 in
set_option maxRecDepth 100000 in
theorem c_X10_isBalanced (l : Launch) (G : LG) (b0 : Nat) (V : St) (res : Int32 × St) (hr : f_X10_isBalanced V = some res) : Met l yX10_isBalanced (wy yX10_isBalanced cX10_isBalanced 1 (some .boolean)) (rm 2) (va_Pc [.ref (b0 + 208)] (Iv G b0 V)) (QI G b0 res.1 res.2) 0 0 (Ab b0) := by
  refine mk_m (by decide +kernel) (Nat.le_of_ble_eq_true rfl) ?_
  intro p e s m below meth c C hV hS ls hl
  obtain ⟨args, hargs⟩ : ∃ z, z = ([.ref (b0 + 208)] : List Value).toArray := ⟨_, rfl⟩
  rw [← hargs] at C ⊢
  obtain ⟨hx, hb, hrt, hml, hown, hts, hlocks, hK, hSv⟩ := id C
  have hl : lv_has ls 1 [(0, .ref (b0 + 208))] := hl
  unfold f_X10_isBalanced at hr
  refine lv_aload_n hx hb dX10_isBalanced_0 rfl (lv_at hl 0 rfl) ?_
  refine lv_iconst (v := 0) hx hb dX10_isBalanced_1 (by decide) ?_
  refine p_X10_0 (x := 0) C hV hS q_1391 dX10_isBalanced_2 (fun H locs hV hS => ?_)
  refine lv_aload_n hx hb dX10_isBalanced_5 rfl (lv_at hl 0 rfl) ?_
  refine g_X10_1 C hV q_1392 dX10_isBalanced_6 ?_
  refine lv_iconst (v := 3) hx hb dX10_isBalanced_9 (by decide) ?_
  refine a_21 (k := 209) (i := 3) (j := 3) C hV z_209 (by decide) dX10_isBalanced_10 ?_
  refine lv_aload_n hx hb dX10_isBalanced_11 rfl (lv_at hl 0 rfl) ?_
  refine g_X10_1 C hV q_1392 dX10_isBalanced_12 ?_
  refine lv_iconst (v := 4) hx hb dX10_isBalanced_15 (by decide) ?_
  refine a_21 (k := 209) (i := 4) (j := 4) C hV z_209 (by decide) dX10_isBalanced_16 ?_
  refine lv_aload_n hx hb dX10_isBalanced_17 rfl (lv_at hl 0 rfl) ?_
  refine lv_iconst (v := 0) hx hb dX10_isBalanced_18 (by decide) ?_
  obtain ⟨q1, e1, hr⟩ := ob hr
  refine cal_i (run_V (As := [.int 0]) (rest := [.int ((up V 208 0 0) 209 4), .int ((up V 208 0 0) 209 3)]) C hV hS (c_X10_tornIn l G b0 (up V 208 0 0) 0 q1 e1) (rcv hK hV (kd_lt z_208 (by decide)) (cel_20 z_208) rfl) q_1638 q_1640 q_119 q_151 q_1641 dk_X10_tornIn (rm_ok (by decide) (by decide)) hl.1 rfl (Nat.le_of_ble_eq_true rfl) dX10_isBalanced_19 ⟨Nat.zero_le _, Nat.zero_le _⟩) hS (fun H locs hV hS => ?_)
  refine lv_iadd hx hb dX10_isBalanced_22 ?_
  refine lv_aload_n hx hb dX10_isBalanced_23 rfl (lv_at hl 0 rfl) ?_
  refine lv_iconst (v := 1) hx hb dX10_isBalanced_24 (by decide) ?_
  obtain ⟨q2, e2, hr⟩ := ob hr
  refine cal_i (run_V (As := [.int 1]) (rest := [.int (((up V 208 0 0) 209 4) + q1), .int ((up V 208 0 0) 209 3)]) C hV hS (c_X10_tornIn l G b0 (up V 208 0 0) 1 q2 e2) (rcv hK hV (kd_lt z_208 (by decide)) (cel_20 z_208) rfl) q_1638 q_1640 q_119 q_151 q_1641 dk_X10_tornIn (rm_ok (by decide) (by decide)) hl.1 rfl (Nat.le_of_ble_eq_true rfl) dX10_isBalanced_25 ⟨Nat.zero_le _, Nat.zero_le _⟩) hS (fun H locs hV hS => ?_)
  refine lv_iadd hx hb dX10_isBalanced_28 ?_
  refine lv_aload_n hx hb dX10_isBalanced_29 rfl (lv_at hl 0 rfl) ?_
  refine lv_iconst (v := 2) hx hb dX10_isBalanced_30 (by decide) ?_
  obtain ⟨q3, e3, hr⟩ := ob hr
  refine cal_i (run_V (As := [.int 2]) (rest := [.int ((((up V 208 0 0) 209 4) + q1) + q2), .int ((up V 208 0 0) 209 3)]) C hV hS (c_X10_tornIn l G b0 (up V 208 0 0) 2 q3 e3) (rcv hK hV (kd_lt z_208 (by decide)) (cel_20 z_208) rfl) q_1638 q_1640 q_119 q_151 q_1641 dk_X10_tornIn (rm_ok (by decide) (by decide)) hl.1 rfl (Nat.le_of_ble_eq_true rfl) dX10_isBalanced_31 ⟨Nat.zero_le _, Nat.zero_le _⟩) hS (fun H locs hV hS => ?_)
  refine lv_iadd hx hb dX10_isBalanced_34 ?_
  refine lv_icmp_ne (tgt := 42) hx hb dX10_isBalanced_35 (by decide) (fun b_4 => ?_) (fun b_4 => ?_)
  · have hr := ie b_4 hr
    refine lv_iconst (v := 0) hx hb dX10_isBalanced_42 (by decide) ?_
    rw [← Option.some.inj hr]
    exact fin_z C hV hS (by decide) rfl dX10_isBalanced_43
  · have hr := it b_4 hr
    refine lv_iconst (v := 1) hx hb dX10_isBalanced_38 (by decide) ?_
    refine lv_goto (tgt := 43) hx hb dX10_isBalanced_39 (by decide) ?_
    rw [← Option.some.inj hr]
    exact fin_z C hV hS (by decide) rfl dX10_isBalanced_43
