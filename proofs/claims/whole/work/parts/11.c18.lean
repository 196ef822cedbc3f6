set_option maxHeartbeats 4000000 in
set_option maxRecDepth 100000 in
theorem c_X10_run (l : Launch) (G : LG) (b0 : Nat) (V : St) (res : Int32 × St) (hr : f_X10_run V = some res) : Met l yX10_run (wy yX10_run cX10_run 4 (some .int)) (rm 8) (va_Pc [.ref (b0 + 208)] (Iv G b0 V)) (QI G b0 res.1 res.2) 0 0 (Ab b0) := by
  refine mk_m (by decide +kernel) (Nat.le_of_ble_eq_true rfl) ?_
  intro p e s m below meth c C hV hS ls hl
  obtain ⟨args, hargs⟩ : ∃ z, z = ([.ref (b0 + 208)] : List Value).toArray := ⟨_, rfl⟩
  rw [← hargs] at C ⊢
  obtain ⟨hx, hb, hrt, hml, hown, hts, hlocks, hK, hSv⟩ := id C
  have hl : lv_has ls 4 [(0, .ref (b0 + 208))] := hl
  have K_88 : ∀ (V : St), f_X10_run_b88 V = some res → ∀ (H : Heap) (locs : List Loc) (ls : Array Slot), Hd G b0 V H → va_S (Ab b0) s.heap H locs → lv_has ls 4 [(0, .ref (b0 + 208))] → W p l e (rm 8) s m args below meth c H locs 0 0 (MQ below (QI G b0 res.1 res.2) args s 0 0 (Ab b0)) (F0 m 88 ls []) := by
    intro V hr H locs ls hV hS hl
    unfold f_X10_run_b88 at hr
    refine lv_aload_n hx hb dX10_run_88 rfl (lv_at hl 0 rfl) ?_
    refine lv_aload_n hx hb dX10_run_89 rfl (lv_at hl 0 rfl) ?_
    refine g_X10_22 C hV q_1413 dX10_run_90 ?_
    refine p_X10_12 (x := (V 208 22)) C hV hS q_1403 dX10_run_93 (fun H locs hV hS => ?_)
    refine lv_aload_n hx hb dX10_run_96 rfl (lv_at hl 0 rfl) ?_
    refine lv_iconst (v := 1) hx hb dX10_run_97 (by decide) ?_
    obtain ⟨q1, e1, hr⟩ := ob hr
    refine cal_i (run_V (As := [.int 1]) (rest := []) C hV hS (c_X10_fails l G b0 (up V 208 12 (V 208 22)) 1 q1 e1) (rcv hK hV (kd_lt z_208 (by decide)) (cel_20 z_208) rfl) q_1523 q_1525 q_103 q_151 q_1526 dk_X10_fails (rm_ok (by decide) (by decide)) hl.1 rfl (Nat.le_of_ble_eq_true rfl) dX10_run_98 ⟨Nat.zero_le _, Nat.zero_le _⟩) hS (fun H locs hV hS => ?_)
    rw [← Option.some.inj hr]
    exact fin_i C hV hS rfl dX10_run_101
  have K_127 : ∀ (n : Nat) (V : St) (x1 : Int32) (x2 : Int32) (x3 : Int32), f_X10_run_b127 n V x1 x2 x3 = some res → ∀ (H : Heap) (locs : List Loc) (ls : Array Slot), Hd G b0 V H → va_S (Ab b0) s.heap H locs → lv_has ls 4 [(0, .ref (b0 + 208)), (1, .int x1), (2, .int x2), (3, .int x3)] → W p l e (rm 8) s m args below meth c H locs 0 0 (MQ below (QI G b0 res.1 res.2) args s 0 0 (Ab b0)) (F0 m 127 ls []) := by
    intro  n
    induction n with
    | zero =>
      intro V x1 x2 x3 hr
      rw [f_X10_run_b127] at hr
      cases hr
    | succ n ih =>
      intro V x1 x2 x3 hr H locs ls hV hS hl
      rw [f_X10_run_b127] at hr
      refine lv_iload_n hx hb dX10_run_127 rfl (lv_at hl 3 rfl) ?_
      refine lv_bipush (v := 53) hx hb dX10_run_128 (by decide) ?_
      refine lv_icmp_ge (tgt := 151) hx hb dX10_run_130 (by decide) (fun b_2 => ?_) (fun b_2 => ?_)
      · have hr := it b_2 hr
        refine lv_aload_n hx hb dX10_run_151 rfl (lv_at hl 0 rfl) ?_
        refine lv_bipush (v := 9) hx hb dX10_run_152 (by decide) ?_
        refine p_X10_13 (x := 9) C hV hS q_1404 dX10_run_154 (fun H locs hV hS => ?_)
        refine lv_aload_n hx hb dX10_run_157 rfl (lv_at hl 0 rfl) ?_
        refine lv_iload_n hx hb dX10_run_158 rfl (lv_at hl 1 rfl) ?_
        refine p_X10_14 (x := x1) C hV hS q_1405 dX10_run_159 (fun H locs hV hS => ?_)
        refine lv_aload_n hx hb dX10_run_162 rfl (lv_at hl 0 rfl) ?_
        refine lv_iload_n hx hb dX10_run_163 rfl (lv_at hl 2 rfl) ?_
        refine p_X10_15 (x := x2) C hV hS q_1406 dX10_run_164 (fun H locs hV hS => ?_)
        refine lv_aload_n hx hb dX10_run_167 rfl (lv_at hl 0 rfl) ?_
        refine lv_aload_n hx hb dX10_run_168 rfl (lv_at hl 0 rfl) ?_
        refine g_X10_17 C hV q_1408 dX10_run_169 ?_
        refine p_X10_16 (x := ((up (up (up V 208 13 9) 208 14 x1) 208 15 x2) 208 17)) C hV hS q_1407 dX10_run_172 (fun H locs hV hS => ?_)
        refine lv_aload_n hx hb dX10_run_175 rfl (lv_at hl 0 rfl) ?_
        refine lv_iconst (v := 2) hx hb dX10_run_176 (by decide) ?_
        obtain ⟨q3, e3, hr⟩ := ob hr
        refine cal_i (run_V (As := [.int 2]) (rest := []) C hV hS (c_X10_fails l G b0 (up (up (up (up V 208 13 9) 208 14 x1) 208 15 x2) 208 16 ((up (up (up V 208 13 9) 208 14 x1) 208 15 x2) 208 17)) 2 q3 e3) (rcv hK hV (kd_lt z_208 (by decide)) (cel_20 z_208) rfl) q_1523 q_1525 q_103 q_151 q_1526 dk_X10_fails (rm_ok (by decide) (by decide)) hl.1 rfl (Nat.le_of_ble_eq_true rfl) dX10_run_177 ⟨Nat.zero_le _, Nat.zero_le _⟩) hS (fun H locs hV hS => ?_)
        rw [← Option.some.inj hr]
        exact fin_i C hV hS rfl dX10_run_180
      · have hr := ie b_2 hr
        refine lv_aload_n hx hb dX10_run_133 rfl (lv_at hl 0 rfl) ?_
        refine g_X10_1 C hV q_1392 dX10_run_134 ?_
        refine lv_iload_n hx hb dX10_run_137 rfl (lv_at hl 3 rfl) ?_
        refine lv_aload_n hx hb dX10_run_138 rfl (lv_at hl 0 rfl) ?_
        refine g_X10_2 C hV q_1393 dX10_run_139 ?_
        refine lv_iload_n hx hb dX10_run_142 rfl (lv_at hl 3 rfl) ?_
        obtain ⟨j4, e4, hr⟩ := ob hr
        refine a_22 (k := 210) (i := x3) (j := j4) C hV z_210 e4 dX10_run_143 ?_
        obtain ⟨j5, e5, hr⟩ := ob hr
        refine s_21 (k := 209) (i := x3) (j := j5) (x := (V 210 j4)) C hV hS z_209 e5 dX10_run_144 (fun H locs hV hS => ?_)
        refine lv_iinc (v := x3 + 1) (lv' := [(3, .int (x3 + 1)), (0, .ref (b0 + 208)), (1, .int x1), (2, .int x2)]) hx hb dX10_run_145 hl (k := 3) rfl rfl (by decide) rfl (fun ls hl => ?_)
        refine lv_goto (tgt := 127) hx hb dX10_run_148 (by decide) ?_
        exact ih _ x1 x2 (x3 + 1) hr _ _ ls hV hS (lv_sub hl [1, 2, 3, 0] rfl)
  have K_104 : ∀ (n : Nat) (V : St) (x1 : Int32), f_X10_run_b104 n V x1 = some res → ∀ (H : Heap) (locs : List Loc) (ls : Array Slot), Hd G b0 V H → va_S (Ab b0) s.heap H locs → lv_has ls 4 [(0, .ref (b0 + 208)), (1, .int x1)] → W p l e (rm 8) s m args below meth c H locs 0 0 (MQ below (QI G b0 res.1 res.2) args s 0 0 (Ab b0)) (F0 m 104 ls []) := by
    intro  n
    induction n with
    | zero =>
      intro V x1 hr
      rw [f_X10_run_b104] at hr
      cases hr
    | succ n ih =>
      intro V x1 hr H locs ls hV hS hl
      rw [f_X10_run_b104] at hr
      refine lv_iload_n hx hb dX10_run_104 rfl (lv_at hl 1 rfl) ?_
      refine lv_aload_n hx hb dX10_run_105 rfl (lv_at hl 0 rfl) ?_
      refine g_X10_24 C hV q_1415 dX10_run_106 ?_
      refine lv_icmp_ge (tgt := 187) hx hb dX10_run_109 (by decide) (fun b_6 => ?_) (fun b_6 => ?_)
      · have hr := it b_6 hr
        refine lv_aload_n hx hb dX10_run_187 rfl (lv_at hl 0 rfl) ?_
        refine lv_aload_n hx hb dX10_run_188 rfl (lv_at hl 0 rfl) ?_
        refine g_X10_24 C hV q_1415 dX10_run_189 ?_
        obtain ⟨q7, e7, hr⟩ := ob hr
        refine cal_i (run_V (As := [.int (V 208 24)]) (rest := []) C hV hS (c_X10_changed l G b0 V (V 208 24) q7 e7) (rcv hK hV (kd_lt z_208 (by decide)) (cel_20 z_208) rfl) q_1519 q_1521 q_102 q_151 q_1522 dk_X10_changed (rm_ok (by decide) (by decide)) hl.1 rfl (Nat.le_of_ble_eq_true rfl) dX10_run_192 ⟨Nat.zero_le _, Nat.zero_le _⟩) hS (fun H locs hV hS => ?_)
        rw [← Option.some.inj hr]
        exact fin_i C hV hS rfl dX10_run_195
      · have hr := ie b_6 hr
        refine lv_aload_n hx hb dX10_run_112 rfl (lv_at hl 0 rfl) ?_
        refine lv_iload_n hx hb dX10_run_113 rfl (lv_at hl 1 rfl) ?_
        obtain ⟨q8, e8, hr⟩ := ob hr
        refine cal_i (run_V (As := [.int x1]) (rest := []) C hV hS (c_X10_does l G b0 V x1 q8 e8) (rcv hK hV (kd_lt z_208 (by decide)) (cel_20 z_208) rfl) q_1758 q_1760 q_134 q_151 q_1761 dk_X10_does (rm_ok (by decide) (by decide)) hl.1 rfl (Nat.le_of_ble_eq_true rfl) dX10_run_114 ⟨Nat.zero_le _, Nat.zero_le _⟩) hS (fun H locs hV hS => ?_)
        refine lv_istore_n (lv' := [(2, .int q8.1), (0, .ref (b0 + 208)), (1, .int x1)]) hx hb dX10_run_117 rfl hl (by decide) rfl (fun ls hl => ?_)
        refine lv_iload_n hx hb dX10_run_118 rfl (lv_at hl 0 rfl) ?_
        refine lv_if_ne (tgt := 125) hx hb dX10_run_119 (by decide) (fun b_9 => ?_) (fun b_9 => ?_)
        · have hr := ie b_9 hr
          refine lv_iconst (v := 0) hx hb dX10_run_125 (by decide) ?_
          refine lv_istore_n (lv' := [(3, .int 0), (2, .int q8.1), (0, .ref (b0 + 208)), (1, .int x1)]) hx hb dX10_run_126 rfl hl (by decide) rfl (fun ls hl => ?_)
          exact K_127 500 _ x1 q8.1 0 hr _ _ ls hV hS (lv_sub hl [2, 3, 1, 0] rfl)
        · have hr := it b_9 hr
          refine lv_goto (tgt := 181) hx hb dX10_run_122 (by decide) ?_
          refine lv_iinc (v := x1 + 1) (lv' := [(1, .int (x1 + 1)), (2, .int q8.1), (0, .ref (b0 + 208))]) hx hb dX10_run_181 hl (k := 2) rfl rfl (by decide) rfl (fun ls hl => ?_)
          refine lv_goto (tgt := 104) hx hb dX10_run_184 (by decide) ?_
          exact ih _ (x1 + 1) hr _ _ ls hV hS (lv_sub hl [2, 0] rfl)
  have K_70 : ∀ (V : St), f_X10_run_b70 V = some res → ∀ (H : Heap) (locs : List Loc) (ls : Array Slot), Hd G b0 V H → va_S (Ab b0) s.heap H locs → lv_has ls 4 [(0, .ref (b0 + 208))] → W p l e (rm 8) s m args below meth c H locs 0 0 (MQ below (QI G b0 res.1 res.2) args s 0 0 (Ab b0)) (F0 m 70 ls []) := by
    intro V hr H locs ls hV hS hl
    unfold f_X10_run_b70 at hr
    refine lv_aload_n hx hb dX10_run_70 rfl (lv_at hl 0 rfl) ?_
    refine g_X10_25 C hV q_1416 dX10_run_71 ?_
    refine lv_if_ne (tgt := 88) hx hb dX10_run_74 (by decide) (fun b_10 => ?_) (fun b_10 => ?_)
    · have hr := ie b_10 hr
      exact K_88 _ hr _ _ ls hV hS (lv_sub hl [0] rfl)
    · have hr := it b_10 hr
      refine lv_aload_n hx hb dX10_run_77 rfl (lv_at hl 0 rfl) ?_
      refine g_X10_22 C hV q_1413 dX10_run_78 ?_
      refine lv_aload_n hx hb dX10_run_81 rfl (lv_at hl 0 rfl) ?_
      refine g_X10_23 C hV q_1414 dX10_run_82 ?_
      refine lv_icmp_ge (tgt := 102) hx hb dX10_run_85 (by decide) (fun b_11 => ?_) (fun b_11 => ?_)
      · have hr := it b_11 hr
        refine lv_iconst (v := 0) hx hb dX10_run_102 (by decide) ?_
        refine lv_istore_n (lv' := [(1, .int 0), (0, .ref (b0 + 208))]) hx hb dX10_run_103 rfl hl (by decide) rfl (fun ls hl => ?_)
        exact K_104 500 _ 0 hr _ _ ls hV hS (lv_sub hl [1, 0] rfl)
      · have hr := ie b_11 hr
        exact K_88 _ hr _ _ ls hV hS (lv_sub hl [0] rfl)
  have K_36 : ∀ (n : Nat) (V : St), f_X10_run_b36 n V = some res → ∀ (H : Heap) (locs : List Loc) (ls : Array Slot), Hd G b0 V H → va_S (Ab b0) s.heap H locs → lv_has ls 4 [(0, .ref (b0 + 208))] → W p l e (rm 8) s m args below meth c H locs 0 0 (MQ below (QI G b0 res.1 res.2) args s 0 0 (Ab b0)) (F0 m 36 ls []) := by
    intro  n
    induction n with
    | zero =>
      intro V hr
      rw [f_X10_run_b36] at hr
      cases hr
    | succ n ih =>
      intro V hr H locs ls hV hS hl
      rw [f_X10_run_b36] at hr
      refine lv_aload_n hx hb dX10_run_36 rfl (lv_at hl 0 rfl) ?_
      refine g_X10_25 C hV q_1416 dX10_run_37 ?_
      refine lv_if_ne (tgt := 70) hx hb dX10_run_40 (by decide) (fun b_12 => ?_) (fun b_12 => ?_)
      · have hr := ie b_12 hr
        exact K_70 _ hr _ _ ls hV hS (lv_sub hl [0] rfl)
      · have hr := it b_12 hr
        refine lv_aload_n hx hb dX10_run_43 rfl (lv_at hl 0 rfl) ?_
        refine lv_iconst (v := 0) hx hb dX10_run_44 (by decide) ?_
        obtain ⟨q13, e13, hr⟩ := ob hr
        refine cal_i (run_V (As := [.int 0]) (rest := []) C hV hS (c_X10_here l G b0 V 0 q13 e13) (rcv hK hV (kd_lt z_208 (by decide)) (cel_20 z_208) rfl) q_1720 q_1722 q_128 q_151 q_1723 dk_X10_here (rm_ok (by decide) (by decide)) hl.1 rfl (Nat.le_of_ble_eq_true rfl) dX10_run_45 ⟨Nat.zero_le _, Nat.zero_le _⟩) hS (fun H locs hV hS => ?_)
        refine lv_bipush (v := 59) hx hb dX10_run_48 (by decide) ?_
        refine lv_icmp_ne (tgt := 70) hx hb dX10_run_50 (by decide) (fun b_14 => ?_) (fun b_14 => ?_)
        · have hr := ie b_14 hr
          exact K_70 _ hr _ _ ls hV hS (lv_sub hl [0] rfl)
        · have hr := it b_14 hr
          refine lv_aload_n hx hb dX10_run_53 rfl (lv_at hl 0 rfl) ?_
          refine lv_dup hx hb dX10_run_54 rfl ?_
          refine g_X10_22 C hV q_1413 dX10_run_55 ?_
          refine lv_iconst (v := 1) hx hb dX10_run_58 (by decide) ?_
          refine lv_iadd hx hb dX10_run_59 ?_
          refine p_X10_22 (x := ((V 208 22) + 1)) C hV hS q_1413 dX10_run_60 (fun H locs hV hS => ?_)
          refine lv_aload_n hx hb dX10_run_63 rfl (lv_at hl 0 rfl) ?_
          obtain ⟨q15, e15, hr⟩ := ob hr
          refine cal_v (run_V (As := []) (rest := []) C hV hS (c_X10_readsOne l G b0 (up V 208 22 ((V 208 22) + 1)) q15 e15) (rcv hK hV (kd_lt z_208 (by decide)) (cel_20 z_208) rfl) q_1716 q_1718 q_127 q_151 q_1719 dk_X10_readsOne (rm_ok (by decide) (by decide)) hl.1 rfl (Nat.le_of_ble_eq_true rfl) dX10_run_64 ⟨Nat.zero_le _, Nat.zero_le _⟩) hS (fun H locs hV hS => ?_)
          refine lv_goto (tgt := 36) hx hb dX10_run_67 (by decide) ?_
          exact ih _ hr _ _ ls hV hS (lv_sub hl [0] rfl)
  unfold f_X10_run at hr
  refine lv_aload_n hx hb dX10_run_0 rfl (lv_at hl 0 rfl) ?_
  obtain ⟨q16, e16, hr⟩ := ob hr
  refine cal_v (run_V (As := []) (rest := []) C hV hS (c_X10_remembers l G b0 V q16 e16) (rcv hK hV (kd_lt z_208 (by decide)) (cel_20 z_208) rfl) q_1478 q_1480 q_94 q_151 q_1481 dk_X10_remembers (rm_ok (by decide) (by decide)) hl.1 rfl (Nat.le_of_ble_eq_true rfl) dX10_run_1 ⟨Nat.zero_le _, Nat.zero_le _⟩) hS (fun H locs hV hS => ?_)
  refine lv_aload_n hx hb dX10_run_4 rfl (lv_at hl 0 rfl) ?_
  refine lv_iconst (v := 0) hx hb dX10_run_5 (by decide) ?_
  refine p_X10_22 (x := 0) C hV hS q_1413 dX10_run_6 (fun H locs hV hS => ?_)
  refine lv_aload_n hx hb dX10_run_9 rfl (lv_at hl 0 rfl) ?_
  refine lv_aload_n hx hb dX10_run_10 rfl (lv_at hl 0 rfl) ?_
  refine g_X10_10 C hV q_1401 dX10_run_11 ?_
  refine p_X10_23 (x := ((up q16 208 22 0) 208 10)) C hV hS q_1414 dX10_run_14 (fun H locs hV hS => ?_)
  refine lv_aload_n hx hb dX10_run_17 rfl (lv_at hl 0 rfl) ?_
  refine lv_iconst (v := 0) hx hb dX10_run_18 (by decide) ?_
  refine p_X10_10 (x := 0) C hV hS q_1401 dX10_run_19 (fun H locs hV hS => ?_)
  refine lv_aload_n hx hb dX10_run_22 rfl (lv_at hl 0 rfl) ?_
  refine lv_iconst (v := 0) hx hb dX10_run_23 (by decide) ?_
  refine p_X10_24 (x := 0) C hV hS q_1415 dX10_run_24 (fun H locs hV hS => ?_)
  refine lv_aload_n hx hb dX10_run_27 rfl (lv_at hl 0 rfl) ?_
  refine lv_iconst (v := 0) hx hb dX10_run_28 (by decide) ?_
  refine p_X10_25 (x := 0) C hV hS q_1416 (by decide) dX10_run_29 (fun H locs hV hS => ?_)
  refine lv_aload_n hx hb dX10_run_32 rfl (lv_at hl 0 rfl) ?_
  obtain ⟨q17, e17, hr⟩ := ob hr
  refine cal_v (run_V (As := []) (rest := []) C hV hS (c_X10_readsOne l G b0 (up (up (up (up (up q16 208 22 0) 208 23 ((up q16 208 22 0) 208 10)) 208 10 0) 208 24 0) 208 25 0) q17 e17) (rcv hK hV (kd_lt z_208 (by decide)) (cel_20 z_208) rfl) q_1716 q_1718 q_127 q_151 q_1719 dk_X10_readsOne (rm_ok (by decide) (by decide)) hl.1 rfl (Nat.le_of_ble_eq_true rfl) dX10_run_33 ⟨Nat.zero_le _, Nat.zero_le _⟩) hS (fun H locs hV hS => ?_)
  exact K_36 500 _ hr _ _ ls hV hS (lv_sub hl [0] rfl)
set_option maxHeartbeats 4000000 in
set_option maxRecDepth 100000 in
theorem c_X10_faultPosition (l : Launch) (G : LG) (b0 : Nat) (V : St) (res : Int32 × St) (hr : f_X10_faultPosition V = some res) : Met l yX10_faultPosition (wy yX10_faultPosition cX10_faultPosition 1 (some .int)) (rm 1) (va_Pc [.ref (b0 + 208)] (Iv G b0 V)) (QI G b0 res.1 res.2) 0 0 (Ab b0) := by
  refine mk_m (by decide +kernel) (Nat.le_of_ble_eq_true rfl) ?_
  intro p e s m below meth c C hV hS ls hl
  obtain ⟨args, hargs⟩ : ∃ z, z = ([.ref (b0 + 208)] : List Value).toArray := ⟨_, rfl⟩
  rw [← hargs] at C ⊢
  obtain ⟨hx, hb, hrt, hml, hown, hts, hlocks, hK, hSv⟩ := id C
  have hl : lv_has ls 1 [(0, .ref (b0 + 208))] := hl
  unfold f_X10_faultPosition at hr
  refine lv_aload_n hx hb dX10_faultPosition_0 rfl (lv_at hl 0 rfl) ?_
  refine lv_iconst (v := 0) hx hb dX10_faultPosition_1 (by decide) ?_
  refine p_X10_0 (x := 0) C hV hS q_1391 dX10_faultPosition_2 (fun H locs hV hS => ?_)
  refine lv_aload_n hx hb dX10_faultPosition_5 rfl (lv_at hl 0 rfl) ?_
  refine g_X10_12 C hV q_1403 dX10_faultPosition_6 ?_
  refine lv_iconst (v := (-1)) hx hb dX10_faultPosition_9 (by decide) ?_
  refine lv_icmp_ne (tgt := 21) hx hb dX10_faultPosition_10 (by decide) (fun b_1 => ?_) (fun b_1 => ?_)
  · have hr := ie b_1 hr
    refine lv_aload_n hx hb dX10_faultPosition_21 rfl (lv_at hl 0 rfl) ?_
    refine g_X10_12 C hV q_1403 dX10_faultPosition_22 ?_
    rw [← Option.some.inj hr]
    exact fin_i C hV hS rfl dX10_faultPosition_25
  · have hr := it b_1 hr
    refine lv_aload_n hx hb dX10_faultPosition_13 rfl (lv_at hl 0 rfl) ?_
    refine lv_iconst (v := 1) hx hb dX10_faultPosition_14 (by decide) ?_
    obtain ⟨q2, e2, hr⟩ := ob hr
    refine cal_i (run_V (As := [.int 1]) (rest := []) C hV hS (c_X10_fails l G b0 (up V 208 0 0) 1 q2 e2) (rcv hK hV (kd_lt z_208 (by decide)) (cel_20 z_208) rfl) q_1523 q_1525 q_103 q_151 q_1526 dk_X10_fails (rm_ok (by decide) (by decide)) hl.1 rfl (Nat.le_of_ble_eq_true rfl) dX10_faultPosition_15 ⟨Nat.zero_le _, Nat.zero_le _⟩) hS (fun H locs hV hS => ?_)
    refine lv_goto (tgt := 25) hx hb dX10_faultPosition_18 (by decide) ?_
    rw [← Option.some.inj hr]
    exact fin_i C hV hS rfl dX10_faultPosition_25
set_option maxHeartbeats 4000000 in
set_option maxRecDepth 100000 in
theorem c_X10_reason (l : Launch) (G : LG) (b0 : Nat) (V : St) (x1 : Int32) (x2 : Int32) (res : Int32 × St) (hr : f_X10_reason V x1 x2 = some res) : Met l yX10_reason (wy yX10_reason cX10_reason 3 (some .int)) (rm 0) (va_Pc [.ref (b0 + 208), .int x1, .int x2] (Iv G b0 V)) (QI G b0 res.1 res.2) 0 0 (Ab b0) := by
  refine mk_m (by decide +kernel) (Nat.le_of_ble_eq_true rfl) ?_
  intro p e s m below meth c C hV hS ls hl
  obtain ⟨args, hargs⟩ : ∃ z, z = ([.ref (b0 + 208), .int x1, .int x2] : List Value).toArray := ⟨_, rfl⟩
  rw [← hargs] at C ⊢
  obtain ⟨hx, hb, hrt, hml, hown, hts, hlocks, hK, hSv⟩ := id C
  have hl : lv_has ls 3 [(0, .ref (b0 + 208)), (1, .int x1), (2, .int x2)] := hl
  have K_24 : ∀ (V : St) (x1 : Int32) (x2 : Int32) (y0 : Int32), f_X10_reason_b24 V x1 x2 y0 = some res → ∀ (H : Heap) (locs : List Loc) (ls : Array Slot), Hd G b0 V H → va_S (Ab b0) s.heap H locs → lv_has ls 3 [(0, .ref (b0 + 208)), (1, .int x1), (2, .int x2)] → W p l e (rm 0) s m args below meth c H locs 0 0 (MQ below (QI G b0 res.1 res.2) args s 0 0 (Ab b0)) (F0 m 24 ls [.int y0, .ref (b0 + 208)]) := by
    intro V x1 x2 y0 hr H locs ls hV hS hl
    unfold f_X10_reason_b24 at hr
    refine p_X10_0 (x := y0) C hV hS q_1391 dX10_reason_24 (fun H locs hV hS => ?_)
    refine lv_aload_n hx hb dX10_reason_27 rfl (lv_at hl 0 rfl) ?_
    refine g_X10_0 C hV q_1391 dX10_reason_28 ?_
    refine lv_if_le (tgt := 36) hx hb dX10_reason_31 (by decide) (fun b_1 => ?_) (fun b_1 => ?_)
    · have hr := it b_1 hr
      refine lv_iload_n hx hb dX10_reason_36 rfl (lv_at hl 1 rfl) ?_
      refine lv_if_eq (tgt := 58) hx hb dX10_reason_37 (by decide) (fun b_2 => ?_) (fun b_2 => ?_)
      · have hr := it b_2 hr
        refine lv_iload_n hx hb dX10_reason_58 rfl (lv_at hl 2 rfl) ?_
        refine lv_if_eq (tgt := 69) hx hb dX10_reason_59 (by decide) (fun b_3 => ?_) (fun b_3 => ?_)
        · have hr := it b_3 hr
          refine lv_aload_n hx hb dX10_reason_69 rfl (lv_at hl 0 rfl) ?_
          refine g_X10_13 C hV q_1404 dX10_reason_70 ?_
          rw [← Option.some.inj hr]
          exact fin_i C hV hS rfl dX10_reason_73
        · have hr := ie b_3 hr
          refine lv_aload_n hx hb dX10_reason_62 rfl (lv_at hl 0 rfl) ?_
          refine g_X10_14 C hV q_1405 dX10_reason_63 ?_
          refine lv_goto (tgt := 73) hx hb dX10_reason_66 (by decide) ?_
          rw [← Option.some.inj hr]
          exact fin_i C hV hS rfl dX10_reason_73
      · have hr := ie b_2 hr
        refine lv_iload_n hx hb dX10_reason_40 rfl (lv_at hl 2 rfl) ?_
        refine lv_if_eq (tgt := 51) hx hb dX10_reason_41 (by decide) (fun b_4 => ?_) (fun b_4 => ?_)
        · have hr := it b_4 hr
          refine lv_aload_n hx hb dX10_reason_51 rfl (lv_at hl 0 rfl) ?_
          refine g_X10_15 C hV q_1406 dX10_reason_52 ?_
          refine lv_goto (tgt := 73) hx hb dX10_reason_55 (by decide) ?_
          rw [← Option.some.inj hr]
          exact fin_i C hV hS rfl dX10_reason_73
        · have hr := ie b_4 hr
          refine lv_aload_n hx hb dX10_reason_44 rfl (lv_at hl 0 rfl) ?_
          refine g_X10_16 C hV q_1407 dX10_reason_45 ?_
          refine lv_goto (tgt := 73) hx hb dX10_reason_48 (by decide) ?_
          rw [← Option.some.inj hr]
          exact fin_i C hV hS rfl dX10_reason_73
    · have hr := ie b_1 hr
      refine lv_iconst (v := 0) hx hb dX10_reason_34 (by decide) ?_
      rw [← Option.some.inj hr]
      exact fin_i C hV hS rfl dX10_reason_35
  have K_19 : ∀ (V : St) (x1 : Int32) (x2 : Int32), f_X10_reason_b19 V x1 x2 = some res → ∀ (H : Heap) (locs : List Loc) (ls : Array Slot), Hd G b0 V H → va_S (Ab b0) s.heap H locs → lv_has ls 3 [(0, .ref (b0 + 208)), (1, .int x1), (2, .int x2)] → W p l e (rm 0) s m args below meth c H locs 0 0 (MQ below (QI G b0 res.1 res.2) args s 0 0 (Ab b0)) (F0 m 19 ls [.ref (b0 + 208)]) := by
    intro V x1 x2 hr H locs ls hV hS hl
    unfold f_X10_reason_b19 at hr
    refine lv_iconst (v := 1) hx hb dX10_reason_19 (by decide) ?_
    refine lv_goto (tgt := 24) hx hb dX10_reason_20 (by decide) ?_
    exact K_24 _ x1 x2 1 hr _ _ ls hV hS (lv_sub hl [0, 1, 2] rfl)
  have K_23 : ∀ (V : St) (x1 : Int32) (x2 : Int32), f_X10_reason_b23 V x1 x2 = some res → ∀ (H : Heap) (locs : List Loc) (ls : Array Slot), Hd G b0 V H → va_S (Ab b0) s.heap H locs → lv_has ls 3 [(0, .ref (b0 + 208)), (1, .int x1), (2, .int x2)] → W p l e (rm 0) s m args below meth c H locs 0 0 (MQ below (QI G b0 res.1 res.2) args s 0 0 (Ab b0)) (F0 m 23 ls [.ref (b0 + 208)]) := by
    intro V x1 x2 hr H locs ls hV hS hl
    unfold f_X10_reason_b23 at hr
    refine lv_iconst (v := 0) hx hb dX10_reason_23 (by decide) ?_
    exact K_24 _ x1 x2 0 hr _ _ ls hV hS (lv_sub hl [0, 1, 2] rfl)
  unfold f_X10_reason at hr
  refine lv_aload_n hx hb dX10_reason_0 rfl (lv_at hl 0 rfl) ?_
  refine lv_aload_n hx hb dX10_reason_1 rfl (lv_at hl 0 rfl) ?_
  refine g_X10_13 C hV q_1404 dX10_reason_2 ?_
  refine lv_if_eq (tgt := 19) hx hb dX10_reason_5 (by decide) (fun b_5 => ?_) (fun b_5 => ?_)
  · have hr := it b_5 hr
    exact K_19 _ x1 x2 hr _ _ ls hV hS (lv_sub hl [0, 1, 2] rfl)
  · have hr := ie b_5 hr
    refine lv_iload_n hx hb dX10_reason_8 rfl (lv_at hl 1 rfl) ?_
    refine lv_if_eq (tgt := 23) hx hb dX10_reason_9 (by decide) (fun b_6 => ?_) (fun b_6 => ?_)
    · have hr := it b_6 hr
      exact K_23 _ x1 x2 hr _ _ ls hV hS (lv_sub hl [0, 1, 2] rfl)
    · have hr := ie b_6 hr
      refine lv_aload_n hx hb dX10_reason_12 rfl (lv_at hl 0 rfl) ?_
      refine g_X10_15 C hV q_1406 dX10_reason_13 ?_
      refine lv_if_ne (tgt := 23) hx hb dX10_reason_16 (by decide) (fun b_7 => ?_) (fun b_7 => ?_)
      · have hr := ie b_7 hr
        exact K_23 _ x1 x2 hr _ _ ls hV hS (lv_sub hl [0, 1, 2] rfl)
      · have hr := it b_7 hr
        exact K_19 _ x1 x2 hr _ _ ls hV hS (lv_sub hl [0, 1, 2] rfl)
set_option maxHeartbeats 4000000 in
set_option maxRecDepth 100000 in
theorem c_X10_writes (l : Launch) (G : LG) (b0 : Nat) (V : St) (x1 : Int32) (res : St) (hr : f_X10_writes V x1 = some res) : Met l yX10_writes (wy yX10_writes cX10_writes 2 none) (rm 0) (va_Pc [.ref (b0 + 208), .int x1] (Iv G b0 V)) (QV G b0 res) 0 0 (Ab b0) := by
  refine mk_m (by decide +kernel) (Nat.le_of_ble_eq_true rfl) ?_
  intro p e s m below meth c C hV hS ls hl
  obtain ⟨args, hargs⟩ : ∃ z, z = ([.ref (b0 + 208), .int x1] : List Value).toArray := ⟨_, rfl⟩
  rw [← hargs] at C ⊢
  obtain ⟨hx, hb, hrt, hml, hown, hts, hlocks, hK, hSv⟩ := id C
  have hl : lv_has ls 2 [(0, .ref (b0 + 208)), (1, .int x1)] := hl
  unfold f_X10_writes at hr
  refine lv_aload_n hx hb dX10_writes_0 rfl (lv_at hl 0 rfl) ?_
  refine g_X10_9 C hV q_1400 dX10_writes_1 ?_
  refine lv_aload_n hx hb dX10_writes_4 rfl (lv_at hl 0 rfl) ?_
  refine g_X10_11 C hV q_1402 dX10_writes_5 ?_
  refine lv_iload_n hx hb dX10_writes_8 rfl (lv_at hl 1 rfl) ?_
  obtain ⟨j1, e1, hr⟩ := ob hr
  refine s_27 (k := 215) (i := (V 208 11)) (j := j1) (x := x1) C hV hS z_215 e1 dX10_writes_9 (fun H locs hV hS => ?_)
  refine lv_aload_n hx hb dX10_writes_10 rfl (lv_at hl 0 rfl) ?_
  refine lv_dup hx hb dX10_writes_11 rfl ?_
  refine g_X10_11 C hV q_1402 dX10_writes_12 ?_
  refine lv_iconst (v := 1) hx hb dX10_writes_15 (by decide) ?_
  refine lv_iadd hx hb dX10_writes_16 ?_
  refine p_X10_11 (x := (((up V 215 j1 x1) 208 11) + 1)) C hV hS q_1402 dX10_writes_17 (fun H locs hV hS => ?_)
  exact fin_v C hV hS (Option.some.inj hr) dX10_writes_20
set_option maxHeartbeats 4000000 in
set_option maxRecDepth 100000 in
theorem c_X10_letter (l : Launch) (G : LG) (b0 : Nat) (V : St) (x0 : Int32) (res : Int32) (hr : f_X10_letter x0 = some res) : Met l yX10_letter (wy yX10_letter cX10_letter 1 (some .int)) (rm 0) (va_Pc [.int x0] (Iv G b0 V)) (QI G b0 res V) 0 0 (Ab b0) := by
  refine mk_m (by decide +kernel) (Nat.le_of_ble_eq_true rfl) ?_
  intro p e s m below meth c C hV hS ls hl
  obtain ⟨args, hargs⟩ : ∃ z, z = ([.int x0] : List Value).toArray := ⟨_, rfl⟩
  rw [← hargs] at C ⊢
  obtain ⟨hx, hb, hrt, hml, hown, hts, hlocks, hK, hSv⟩ := id C
  have hl : lv_has ls 1 [(0, .int x0)] := hl
  unfold f_X10_letter at hr
  refine lv_iload_n hx hb dX10_letter_0 rfl (lv_at hl 0 rfl) ?_
  refine lv_if_ne (tgt := 9) hx hb dX10_letter_1 (by decide) (fun b_1 => ?_) (fun b_1 => ?_)
  · have hr := ie b_1 hr
    refine lv_bipush (v := 97) hx hb dX10_letter_9 (by decide) ?_
    refine lv_iload_n hx hb dX10_letter_11 rfl (lv_at hl 0 rfl) ?_
    refine lv_iadd hx hb dX10_letter_12 ?_
    refine lv_iconst (v := 1) hx hb dX10_letter_13 (by decide) ?_
    refine lv_isub hx hb dX10_letter_14 ?_
    exact fin_i C hV hS (Option.some.inj hr) dX10_letter_15
  · have hr := it b_1 hr
    refine lv_bipush (v := 46) hx hb dX10_letter_4 (by decide) ?_
    refine lv_goto (tgt := 15) hx hb dX10_letter_6 (by decide) ?_
    exact fin_i C hV hS (Option.some.inj hr) dX10_letter_15
set_option maxHeartbeats 4000000 in
set_option maxRecDepth 100000 in
theorem c_X10_line (l : Launch) (G : LG) (b0 : Nat) (V : St) (x1 : Int32) (x2 : Int32) (res : Int32 × St) (hr : f_X10_line V x1 x2 = some res) : Met l yX10_line (wy yX10_line cX10_line 4 (some .int)) (rm 2) (va_Pc [.ref (b0 + 208), .int x1, .int x2] (Iv G b0 V)) (QI G b0 res.1 res.2) 0 0 (Ab b0) := by
  refine mk_m (by decide +kernel) (Nat.le_of_ble_eq_true rfl) ?_
  intro p e s m below meth c C hV hS ls hl
  obtain ⟨args, hargs⟩ : ∃ z, z = ([.ref (b0 + 208), .int x1, .int x2] : List Value).toArray := ⟨_, rfl⟩
  rw [← hargs] at C ⊢
  obtain ⟨hx, hb, hrt, hml, hown, hts, hlocks, hK, hSv⟩ := id C
  have hl : lv_has ls 4 [(0, .ref (b0 + 208)), (1, .int x1), (2, .int x2)] := hl
  have K_118 : ∀ (c_61 : St → Int32 → Int32 → Int32 → Option (Int32 × St)) (hc_61 : ∀ (V : St) (x1 : Int32) (x2 : Int32) (x3 : Int32), c_61 V x1 x2 x3 = some res → ∀ (H : Heap) (locs : List Loc) (ls : Array Slot), Hd G b0 V H → va_S (Ab b0) s.heap H locs → lv_has ls 4 [(0, .ref (b0 + 208)), (1, .int x1), (2, .int x2), (3, .int x3)] → W p l e (rm 2) s m args below meth c H locs 0 0 (MQ below (QI G b0 res.1 res.2) args s 0 0 (Ab b0)) (F0 m 61 ls [])) (V : St) (x1 : Int32) (x2 : Int32) (x3 : Int32), f_X10_line_b118 c_61 V x1 x2 x3 = some res → ∀ (H : Heap) (locs : List Loc) (ls : Array Slot), Hd G b0 V H → va_S (Ab b0) s.heap H locs → lv_has ls 4 [(0, .ref (b0 + 208)), (1, .int x1), (2, .int x2), (3, .int x3)] → W p l e (rm 2) s m args below meth c H locs 0 0 (MQ below (QI G b0 res.1 res.2) args s 0 0 (Ab b0)) (F0 m 118 ls []) := by
    intro c_61 hc_61 V x1 x2 x3 hr H locs ls hV hS hl
    unfold f_X10_line_b118 at hr
    refine lv_iinc (v := x3 + 1) (lv' := [(3, .int (x3 + 1)), (0, .ref (b0 + 208)), (1, .int x1), (2, .int x2)]) hx hb dX10_line_118 hl (k := 3) rfl rfl (by decide) rfl (fun ls hl => ?_)
    refine lv_goto (tgt := 61) hx hb dX10_line_121 (by decide) ?_
    exact hc_61 _ x1 x2 (x3 + 1) hr _ _ ls hV hS (lv_sub hl [1, 2, 3, 0] rfl)
  have K_115 : ∀ (c_61 : St → Int32 → Int32 → Int32 → Option (Int32 × St)) (hc_61 : ∀ (V : St) (x1 : Int32) (x2 : Int32) (x3 : Int32), c_61 V x1 x2 x3 = some res → ∀ (H : Heap) (locs : List Loc) (ls : Array Slot), Hd G b0 V H → va_S (Ab b0) s.heap H locs → lv_has ls 4 [(0, .ref (b0 + 208)), (1, .int x1), (2, .int x2), (3, .int x3)] → W p l e (rm 2) s m args below meth c H locs 0 0 (MQ below (QI G b0 res.1 res.2) args s 0 0 (Ab b0)) (F0 m 61 ls [])) (V : St) (x1 : Int32) (x2 : Int32) (x3 : Int32) (y0 : Int32), f_X10_line_b115 c_61 V x1 x2 x3 y0 = some res → ∀ (H : Heap) (locs : List Loc) (ls : Array Slot), Hd G b0 V H → va_S (Ab b0) s.heap H locs → lv_has ls 4 [(0, .ref (b0 + 208)), (1, .int x1), (2, .int x2), (3, .int x3)] → W p l e (rm 2) s m args below meth c H locs 0 0 (MQ below (QI G b0 res.1 res.2) args s 0 0 (Ab b0)) (F0 m 115 ls [.int y0, .ref (b0 + 208)]) := by
    intro c_61 hc_61 V x1 x2 x3 y0 hr H locs ls hV hS hl
    unfold f_X10_line_b115 at hr
    obtain ⟨q1, e1, hr⟩ := ob hr
    refine cal_v (run_V (As := [.int y0]) (rest := []) C hV hS (c_X10_writes l G b0 V y0 q1 e1) (rcv hK hV (kd_lt z_208 (by decide)) (cel_20 z_208) rfl) q_1774 q_1776 q_135 q_151 q_1777 dk_X10_writes (rm_ok (by decide) (by decide)) hl.1 rfl (Nat.le_of_ble_eq_true rfl) dX10_line_115 ⟨Nat.zero_le _, Nat.zero_le _⟩) hS (fun H locs hV hS => ?_)
    exact K_118 c_61 hc_61 _ x1 x2 x3 hr _ _ ls hV hS (lv_sub hl [0, 1, 2, 3] rfl)
  have K_61 : ∀ (n : Nat) (V : St) (x1 : Int32) (x2 : Int32) (x3 : Int32), f_X10_line_b61 n V x1 x2 x3 = some res → ∀ (H : Heap) (locs : List Loc) (ls : Array Slot), Hd G b0 V H → va_S (Ab b0) s.heap H locs → lv_has ls 4 [(0, .ref (b0 + 208)), (1, .int x1), (2, .int x2), (3, .int x3)] → W p l e (rm 2) s m args below meth c H locs 0 0 (MQ below (QI G b0 res.1 res.2) args s 0 0 (Ab b0)) (F0 m 61 ls []) := by
    intro  n
    induction n with
    | zero =>
      intro V x1 x2 x3 hr
      rw [f_X10_line_b61] at hr
      cases hr
    | succ n ih =>
      intro V x1 x2 x3 hr H locs ls hV hS hl
      rw [f_X10_line_b61] at hr
      refine lv_iload_n hx hb dX10_line_61 rfl (lv_at hl 3 rfl) ?_
      refine lv_bipush (v := 6) hx hb dX10_line_62 (by decide) ?_
      refine lv_iload_n hx hb dX10_line_64 rfl (lv_at hl 2 rfl) ?_
      refine lv_imul hx hb dX10_line_65 ?_
      refine lv_bipush (v := 6) hx hb dX10_line_66 (by decide) ?_
      refine lv_iadd hx hb dX10_line_68 ?_
      refine lv_icmp_ge (tgt := 124) hx hb dX10_line_69 (by decide) (fun b_2 => ?_) (fun b_2 => ?_)
      · have hr := it b_2 hr
        refine lv_aload_n hx hb dX10_line_124 rfl (lv_at hl 0 rfl) ?_
        refine g_X10_11 C hV q_1402 dX10_line_125 ?_
        rw [← Option.some.inj hr]
        exact fin_i C hV hS rfl dX10_line_128
      · have hr := ie b_2 hr
        refine lv_aload_n hx hb dX10_line_72 rfl (lv_at hl 0 rfl) ?_
        refine lv_aload_n hx hb dX10_line_73 rfl (lv_at hl 0 rfl) ?_
        refine lv_iload_n hx hb dX10_line_74 rfl (lv_at hl 1 rfl) ?_
        refine lv_iload_n hx hb dX10_line_75 rfl (lv_at hl 3 rfl) ?_
        obtain ⟨q3, e3, hr⟩ := ob hr
        refine cal_i (run_V (As := [.int x1, .int x3]) (rest := [.ref (b0 + 208)]) C hV hS (c_X10_kind l G b0 V x1 x3 q3 e3) (rcv hK hV (kd_lt z_208 (by decide)) (cel_20 z_208) rfl) q_1499 q_1501 q_97 q_151 q_1502 dk_X10_kind (rm_ok (by decide) (by decide)) hl.1 rfl (Nat.le_of_ble_eq_true rfl) dX10_line_76 ⟨Nat.zero_le _, Nat.zero_le _⟩) hS (fun H locs hV hS => ?_)
        obtain ⟨q4, e4, hr⟩ := ob hr
        refine cal_i (run_S (As := [.int q3]) (rest := [.ref (b0 + 208)]) C hV hS (c_X10_letter l G b0 V q3 q4 e4) q_1778 q_1779 q_151 q_1780 dk_X10_letter (rm_ok (by decide) (by decide)) hl.1 rfl (Nat.le_of_ble_eq_true rfl) dX10_line_79 ⟨Nat.zero_le _, Nat.zero_le _⟩) hS (fun H locs hV hS => ?_)
        obtain ⟨q5, e5, hr⟩ := ob hr
        refine cal_v (run_V (As := [.int q4]) (rest := []) C hV hS (c_X10_writes l G b0 V q4 q5 e5) (rcv hK hV (kd_lt z_208 (by decide)) (cel_20 z_208) rfl) q_1774 q_1776 q_135 q_151 q_1777 dk_X10_writes (rm_ok (by decide) (by decide)) hl.1 rfl (Nat.le_of_ble_eq_true rfl) dX10_line_82 ⟨Nat.zero_le _, Nat.zero_le _⟩) hS (fun H locs hV hS => ?_)
        refine lv_iload_n hx hb dX10_line_85 rfl (lv_at hl 3 rfl) ?_
        refine lv_bipush (v := 6) hx hb dX10_line_86 (by decide) ?_
        refine lv_irem hx hb dX10_line_88 (by decide) ?_
        refine lv_iconst (v := 5) hx hb dX10_line_89 (by decide) ?_
        refine lv_icmp_ge (tgt := 118) hx hb dX10_line_90 (by decide) (fun b_6 => ?_) (fun b_6 => ?_)
        · have hr := it b_6 hr
          exact K_118 (fun V x1 x2 x3 => f_X10_line_b61 n V x1 x2 x3) (fun V x1 x2 x3 hr => ih V x1 x2 x3 hr) _ x1 x2 x3 hr _ _ ls hV hS (lv_sub hl [0, 1, 2, 3] rfl)
        · have hr := ie b_6 hr
          refine lv_aload_n hx hb dX10_line_93 rfl (lv_at hl 0 rfl) ?_
          refine lv_aload_n hx hb dX10_line_94 rfl (lv_at hl 0 rfl) ?_
          refine lv_iload_n hx hb dX10_line_95 rfl (lv_at hl 1 rfl) ?_
          refine lv_iconst (v := 2) hx hb dX10_line_96 (by decide) ?_
          obtain ⟨q7, e7, hr⟩ := ob hr
          refine cal_i (run_V (As := [.int x1, .int 2]) (rest := [.ref (b0 + 208)]) C hV hS (c_X10_of l G b0 q5 x1 2 q7 e7) (rcv hK hV (kd_lt z_208 (by decide)) (cel_20 z_208) rfl) q_1503 q_1505 q_98 q_151 q_1506 dk_X10_of (rm_ok (by decide) (by decide)) hl.1 rfl (Nat.le_of_ble_eq_true rfl) dX10_line_97 ⟨Nat.zero_le _, Nat.zero_le _⟩) hS (fun H locs hV hS => ?_)
          refine lv_iload_n hx hb dX10_line_100 rfl (lv_at hl 3 rfl) ?_
          refine lv_ishr hx hb dX10_line_101 ?_
          refine lv_iconst (v := 1) hx hb dX10_line_102 (by decide) ?_
          refine lv_iand hx hb dX10_line_103 ?_
          refine lv_iconst (v := 1) hx hb dX10_line_104 (by decide) ?_
          refine lv_icmp_ne (tgt := 113) hx hb dX10_line_105 (by decide) (fun b_8 => ?_) (fun b_8 => ?_)
          · have hr := ie b_8 hr
            refine lv_bipush (v := 45) hx hb dX10_line_113 (by decide) ?_
            exact K_115 (fun V x1 x2 x3 => f_X10_line_b61 n V x1 x2 x3) (fun V x1 x2 x3 hr => ih V x1 x2 x3 hr) _ x1 x2 x3 45 hr _ _ ls hV hS (lv_sub hl [0, 1, 2, 3] rfl)
          · have hr := it b_8 hr
            refine lv_bipush (v := 47) hx hb dX10_line_108 (by decide) ?_
            refine lv_goto (tgt := 115) hx hb dX10_line_110 (by decide) ?_
            exact K_115 (fun V x1 x2 x3 => f_X10_line_b61 n V x1 x2 x3) (fun V x1 x2 x3 hr => ih V x1 x2 x3 hr) _ x1 x2 x3 47 hr _ _ ls hV hS (lv_sub hl [0, 1, 2, 3] rfl)
  have K_56 : ∀ (V : St) (x1 : Int32) (x2 : Int32), f_X10_line_b56 V x1 x2 = some res → ∀ (H : Heap) (locs : List Loc) (ls : Array Slot), Hd G b0 V H → va_S (Ab b0) s.heap H locs → lv_has ls 4 [(0, .ref (b0 + 208)), (1, .int x1), (2, .int x2)] → W p l e (rm 2) s m args below meth c H locs 0 0 (MQ below (QI G b0 res.1 res.2) args s 0 0 (Ab b0)) (F0 m 56 ls []) := by
    intro V x1 x2 hr H locs ls hV hS hl
    unfold f_X10_line_b56 at hr
    refine lv_bipush (v := 6) hx hb dX10_line_56 (by decide) ?_
    refine lv_iload_n hx hb dX10_line_58 rfl (lv_at hl 2 rfl) ?_
    refine lv_imul hx hb dX10_line_59 ?_
    refine lv_istore_n (lv' := [(3, .int (6 * x2)), (0, .ref (b0 + 208)), (1, .int x1), (2, .int x2)]) hx hb dX10_line_60 rfl hl (by decide) rfl (fun ls hl => ?_)
    exact K_61 500 _ x1 x2 (6 * x2) hr _ _ ls hV hS (lv_sub hl [1, 2, 3, 0] rfl)
  have K_22 : ∀ (V : St) (x1 : Int32) (x2 : Int32) (y0 : Int32), f_X10_line_b22 V x1 x2 y0 = some res → ∀ (H : Heap) (locs : List Loc) (ls : Array Slot), Hd G b0 V H → va_S (Ab b0) s.heap H locs → lv_has ls 4 [(0, .ref (b0 + 208)), (1, .int x1), (2, .int x2)] → W p l e (rm 2) s m args below meth c H locs 0 0 (MQ below (QI G b0 res.1 res.2) args s 0 0 (Ab b0)) (F0 m 22 ls [.int y0, .ref (b0 + 208)]) := by
    intro V x1 x2 y0 hr H locs ls hV hS hl
    unfold f_X10_line_b22 at hr
    refine p_X10_0 (x := y0) C hV hS q_1391 dX10_line_22 (fun H locs hV hS => ?_)
    refine lv_aload_n hx hb dX10_line_25 rfl (lv_at hl 0 rfl) ?_
    refine g_X10_0 C hV q_1391 dX10_line_26 ?_
    refine lv_if_le (tgt := 34) hx hb dX10_line_29 (by decide) (fun b_9 => ?_) (fun b_9 => ?_)
    · have hr := it b_9 hr
      refine lv_aload_n hx hb dX10_line_34 rfl (lv_at hl 0 rfl) ?_
      refine lv_iconst (v := 0) hx hb dX10_line_35 (by decide) ?_
      refine p_X10_11 (x := 0) C hV hS q_1402 dX10_line_36 (fun H locs hV hS => ?_)
      refine lv_iload_n hx hb dX10_line_39 rfl (lv_at hl 2 rfl) ?_
      refine lv_iconst (v := 4) hx hb dX10_line_40 (by decide) ?_
      refine lv_aload_n hx hb dX10_line_41 rfl (lv_at hl 0 rfl) ?_
      refine lv_iload_n hx hb dX10_line_42 rfl (lv_at hl 1 rfl) ?_
      obtain ⟨q10, e10, hr⟩ := ob hr
      refine cal_i (run_V (As := [.int x1]) (rest := [.int 4, .int x2]) C hV hS (c_X10_underWater l G b0 (up (up V 208 0 y0) 208 11 0) x1 q10 e10) (rcv hK hV (kd_lt z_208 (by decide)) (cel_20 z_208) rfl) q_1591 q_1593 q_114 q_151 q_1594 dk_X10_underWater (rm_ok (by decide) (by decide)) hl.1 rfl (Nat.le_of_ble_eq_true rfl) dX10_line_43 ⟨Nat.zero_le _, Nat.zero_le _⟩) hS (fun H locs hV hS => ?_)
      refine lv_isub hx hb dX10_line_46 ?_
      refine lv_icmp_lt (tgt := 56) hx hb dX10_line_47 (by decide) (fun b_11 => ?_) (fun b_11 => ?_)
      · have hr := it b_11 hr
        exact K_56 _ x1 x2 hr _ _ ls hV hS (lv_sub hl [0, 1, 2] rfl)
      · have hr := ie b_11 hr
        refine lv_aload_n hx hb dX10_line_50 rfl (lv_at hl 0 rfl) ?_
        refine lv_bipush (v := 126) hx hb dX10_line_51 (by decide) ?_
        obtain ⟨q12, e12, hr⟩ := ob hr
        refine cal_v (run_V (As := [.int 126]) (rest := []) C hV hS (c_X10_writes l G b0 (up (up V 208 0 y0) 208 11 0) 126 q12 e12) (rcv hK hV (kd_lt z_208 (by decide)) (cel_20 z_208) rfl) q_1774 q_1776 q_135 q_151 q_1777 dk_X10_writes (rm_ok (by decide) (by decide)) hl.1 rfl (Nat.le_of_ble_eq_true rfl) dX10_line_53 ⟨Nat.zero_le _, Nat.zero_le _⟩) hS (fun H locs hV hS => ?_)
        exact K_56 _ x1 x2 hr _ _ ls hV hS (lv_sub hl [0, 1, 2] rfl)
    · have hr := ie b_9 hr
      refine lv_iconst (v := 0) hx hb dX10_line_32 (by decide) ?_
      rw [← Option.some.inj hr]
      exact fin_i C hV hS rfl dX10_line_33
  have K_21 : ∀ (V : St) (x1 : Int32) (x2 : Int32), f_X10_line_b21 V x1 x2 = some res → ∀ (H : Heap) (locs : List Loc) (ls : Array Slot), Hd G b0 V H → va_S (Ab b0) s.heap H locs → lv_has ls 4 [(0, .ref (b0 + 208)), (1, .int x1), (2, .int x2)] → W p l e (rm 2) s m args below meth c H locs 0 0 (MQ below (QI G b0 res.1 res.2) args s 0 0 (Ab b0)) (F0 m 21 ls [.ref (b0 + 208)]) := by
    intro V x1 x2 hr H locs ls hV hS hl
    unfold f_X10_line_b21 at hr
    refine lv_iconst (v := 1) hx hb dX10_line_21 (by decide) ?_
    exact K_22 _ x1 x2 1 hr _ _ ls hV hS (lv_sub hl [0, 1, 2] rfl)
  unfold f_X10_line at hr
  refine lv_aload_n hx hb dX10_line_0 rfl (lv_at hl 0 rfl) ?_
  refine lv_iload_n hx hb dX10_line_1 rfl (lv_at hl 1 rfl) ?_
  obtain ⟨q13, e13, hr⟩ := ob hr
  refine cal_i (run_S (As := [.int x1]) (rest := [.ref (b0 + 208)]) C hV hS (c_X10_isNet l G b0 V x1 q13 e13) q_1486 q_1487 q_151 q_1488 dk_X10_isNet (rm_ok (by decide) (by decide)) hl.1 rfl (Nat.le_of_ble_eq_true rfl) dX10_line_2 ⟨Nat.zero_le _, Nat.zero_le _⟩) hS (fun H locs hV hS => ?_)
  refine lv_if_eq (tgt := 21) hx hb dX10_line_5 (by decide) (fun b_14 => ?_) (fun b_14 => ?_)
  · have hr := it b_14 hr
    exact K_21 _ x1 x2 hr _ _ ls hV hS (lv_sub hl [0, 1, 2] rfl)
  · have hr := ie b_14 hr
    refine lv_iload_n hx hb dX10_line_8 rfl (lv_at hl 2 rfl) ?_
    refine lv_iconst (v := 0) hx hb dX10_line_9 (by decide) ?_
    refine lv_iconst (v := 3) hx hb dX10_line_10 (by decide) ?_
    obtain ⟨q15, e15, hr⟩ := ob hr
    refine cal_i (run_S (As := [.int x2, .int 0, .int 3]) (rest := [.ref (b0 + 208)]) C hV hS (c_X10_in l G b0 V x2 0 3 q15 e15) q_1489 q_1490 q_151 q_1491 dk_X10_in (rm_ok (by decide) (by decide)) hl.1 rfl (Nat.le_of_ble_eq_true rfl) dX10_line_11 ⟨Nat.zero_le _, Nat.zero_le _⟩) hS (fun H locs hV hS => ?_)
    refine lv_if_eq (tgt := 21) hx hb dX10_line_14 (by decide) (fun b_16 => ?_) (fun b_16 => ?_)
    · have hr := it b_16 hr
      exact K_21 _ x1 x2 hr _ _ ls hV hS (lv_sub hl [0, 1, 2] rfl)
    · have hr := ie b_16 hr
      refine lv_iconst (v := 0) hx hb dX10_line_17 (by decide) ?_
      refine lv_goto (tgt := 22) hx hb dX10_line_18 (by decide) ?_
      exact K_22 _ x1 x2 0 hr _ _ ls hV hS (lv_sub hl [0, 1, 2] rfl)
set_option maxHeartbeats 4000000 in
set_option maxRecDepth 100000 in
theorem c_X10_chapterLine (l : Launch) (G : LG) (b0 : Nat) (V : St) (x1 : Int32) (x2 : Int32) (res : Int32 × St) (hr : f_X10_chapterLine V x1 x2 = some res) : Met l yX10_chapterLine (wy yX10_chapterLine cX10_chapterLine 5 (some .int)) (rm 2) (va_Pc [.ref (b0 + 208), .int x1, .int x2] (Iv G b0 V)) (QI G b0 res.1 res.2) 0 0 (Ab b0) := by
  refine mk_m (by decide +kernel) (Nat.le_of_ble_eq_true rfl) ?_
  intro p e s m below meth c C hV hS ls hl
  obtain ⟨args, hargs⟩ : ∃ z, z = ([.ref (b0 + 208), .int x1, .int x2] : List Value).toArray := ⟨_, rfl⟩
  rw [← hargs] at C ⊢
  obtain ⟨hx, hb, hrt, hml, hown, hts, hlocks, hK, hSv⟩ := id C
  have hl : lv_has ls 5 [(0, .ref (b0 + 208)), (1, .int x1), (2, .int x2)] := hl
  have K_99 : ∀ (c_68 : St → Int32 → Int32 → Int32 → Option (Int32 × St)) (hc_68 : ∀ (V : St) (x1 : Int32) (x3 : Int32) (x4 : Int32), c_68 V x1 x3 x4 = some res → ∀ (H : Heap) (locs : List Loc) (ls : Array Slot), Hd G b0 V H → va_S (Ab b0) s.heap H locs → lv_has ls 5 [(0, .ref (b0 + 208)), (1, .int x1), (3, .int x3), (4, .int x4)] → W p l e (rm 2) s m args below meth c H locs 0 0 (MQ below (QI G b0 res.1 res.2) args s 0 0 (Ab b0)) (F0 m 68 ls [])) (V : St) (x1 : Int32) (x3 : Int32) (x4 : Int32), f_X10_chapterLine_b99 c_68 V x1 x3 x4 = some res → ∀ (H : Heap) (locs : List Loc) (ls : Array Slot), Hd G b0 V H → va_S (Ab b0) s.heap H locs → lv_has ls 5 [(0, .ref (b0 + 208)), (1, .int x1), (3, .int x3), (4, .int x4)] → W p l e (rm 2) s m args below meth c H locs 0 0 (MQ below (QI G b0 res.1 res.2) args s 0 0 (Ab b0)) (F0 m 99 ls []) := by
    intro c_68 hc_68 V x1 x3 x4 hr H locs ls hV hS hl
    unfold f_X10_chapterLine_b99 at hr
    refine lv_iinc (v := x4 + 1) (lv' := [(4, .int (x4 + 1)), (0, .ref (b0 + 208)), (1, .int x1), (3, .int x3)]) hx hb dX10_chapterLine_99 hl (k := 3) rfl rfl (by decide) rfl (fun ls hl => ?_)
    refine lv_goto (tgt := 68) hx hb dX10_chapterLine_102 (by decide) ?_
    exact hc_68 _ x1 x3 (x4 + 1) hr _ _ ls hV hS (lv_sub hl [1, 2, 3, 0] rfl)
  have K_68 : ∀ (n : Nat) (V : St) (x1 : Int32) (x3 : Int32) (x4 : Int32), f_X10_chapterLine_b68 n V x1 x3 x4 = some res → ∀ (H : Heap) (locs : List Loc) (ls : Array Slot), Hd G b0 V H → va_S (Ab b0) s.heap H locs → lv_has ls 5 [(0, .ref (b0 + 208)), (1, .int x1), (3, .int x3), (4, .int x4)] → W p l e (rm 2) s m args below meth c H locs 0 0 (MQ below (QI G b0 res.1 res.2) args s 0 0 (Ab b0)) (F0 m 68 ls []) := by
    intro  n
    induction n with
    | zero =>
      intro V x1 x3 x4 hr
      rw [f_X10_chapterLine_b68] at hr
      cases hr
    | succ n ih =>
      intro V x1 x3 x4 hr H locs ls hV hS hl
      rw [f_X10_chapterLine_b68] at hr
      refine lv_iload hx hb dX10_chapterLine_68 (lv_at hl 3 rfl) ?_
      refine lv_bipush (v := 24) hx hb dX10_chapterLine_70 (by decide) ?_
      refine lv_icmp_ge (tgt := 105) hx hb dX10_chapterLine_72 (by decide) (fun b_1 => ?_) (fun b_1 => ?_)
      · have hr := it b_1 hr
        refine lv_aload_n hx hb dX10_chapterLine_105 rfl (lv_at hl 0 rfl) ?_
        refine g_X10_11 C hV q_1402 dX10_chapterLine_106 ?_
        rw [← Option.some.inj hr]
        exact fin_i C hV hS rfl dX10_chapterLine_109
      · have hr := ie b_1 hr
        refine lv_iload_n hx hb dX10_chapterLine_75 rfl (lv_at hl 2 rfl) ?_
        refine lv_iload hx hb dX10_chapterLine_76 (lv_at hl 3 rfl) ?_
        refine lv_ishr hx hb dX10_chapterLine_78 ?_
        refine lv_iconst (v := 1) hx hb dX10_chapterLine_79 (by decide) ?_
        refine lv_iand hx hb dX10_chapterLine_80 ?_
        refine lv_iconst (v := 1) hx hb dX10_chapterLine_81 (by decide) ?_
        refine lv_icmp_ne (tgt := 99) hx hb dX10_chapterLine_82 (by decide) (fun b_2 => ?_) (fun b_2 => ?_)
        · have hr := ie b_2 hr
          exact K_99 (fun V x1 x3 x4 => f_X10_chapterLine_b68 n V x1 x3 x4) (fun V x1 x3 x4 hr => ih V x1 x3 x4 hr) _ x1 x3 x4 hr _ _ ls hV hS (lv_sub hl [0, 1, 2, 3] rfl)
        · have hr := it b_2 hr
          refine lv_aload_n hx hb dX10_chapterLine_85 rfl (lv_at hl 0 rfl) ?_
          refine lv_aload_n hx hb dX10_chapterLine_86 rfl (lv_at hl 0 rfl) ?_
          refine lv_iload_n hx hb dX10_chapterLine_87 rfl (lv_at hl 1 rfl) ?_
          refine lv_iload hx hb dX10_chapterLine_88 (lv_at hl 3 rfl) ?_
          obtain ⟨q3, e3, hr⟩ := ob hr
          refine cal_i (run_V (As := [.int x1, .int x4]) (rest := [.ref (b0 + 208)]) C hV hS (c_X10_kind l G b0 V x1 x4 q3 e3) (rcv hK hV (kd_lt z_208 (by decide)) (cel_20 z_208) rfl) q_1499 q_1501 q_97 q_151 q_1502 dk_X10_kind (rm_ok (by decide) (by decide)) hl.1 rfl (Nat.le_of_ble_eq_true rfl) dX10_chapterLine_90 ⟨Nat.zero_le _, Nat.zero_le _⟩) hS (fun H locs hV hS => ?_)
          obtain ⟨q4, e4, hr⟩ := ob hr
          refine cal_i (run_S (As := [.int q3]) (rest := [.ref (b0 + 208)]) C hV hS (c_X10_letter l G b0 V q3 q4 e4) q_1778 q_1779 q_151 q_1780 dk_X10_letter (rm_ok (by decide) (by decide)) hl.1 rfl (Nat.le_of_ble_eq_true rfl) dX10_chapterLine_93 ⟨Nat.zero_le _, Nat.zero_le _⟩) hS (fun H locs hV hS => ?_)
          obtain ⟨q5, e5, hr⟩ := ob hr
          refine cal_v (run_V (As := [.int q4]) (rest := []) C hV hS (c_X10_writes l G b0 V q4 q5 e5) (rcv hK hV (kd_lt z_208 (by decide)) (cel_20 z_208) rfl) q_1774 q_1776 q_135 q_151 q_1777 dk_X10_writes (rm_ok (by decide) (by decide)) hl.1 rfl (Nat.le_of_ble_eq_true rfl) dX10_chapterLine_96 ⟨Nat.zero_le _, Nat.zero_le _⟩) hS (fun H locs hV hS => ?_)
          exact K_99 (fun V x1 x3 x4 => f_X10_chapterLine_b68 n V x1 x3 x4) (fun V x1 x3 x4 hr => ih V x1 x3 x4 hr) _ x1 x3 x4 hr _ _ ls hV hS (lv_sub hl [0, 1, 2, 3] rfl)
  have K_33 : ∀ (V : St) (x1 : Int32) (x2 : Int32) (y0 : Int32), f_X10_chapterLine_b33 V x1 x2 y0 = some res → ∀ (H : Heap) (locs : List Loc) (ls : Array Slot), Hd G b0 V H → va_S (Ab b0) s.heap H locs → lv_has ls 5 [(0, .ref (b0 + 208)), (1, .int x1), (2, .int x2)] → W p l e (rm 2) s m args below meth c H locs 0 0 (MQ below (QI G b0 res.1 res.2) args s 0 0 (Ab b0)) (F0 m 33 ls [.int y0, .ref (b0 + 208)]) := by
    intro V x1 x2 y0 hr H locs ls hV hS hl
    unfold f_X10_chapterLine_b33 at hr
    refine p_X10_0 (x := y0) C hV hS q_1391 dX10_chapterLine_33 (fun H locs hV hS => ?_)
    refine lv_aload_n hx hb dX10_chapterLine_36 rfl (lv_at hl 0 rfl) ?_
    refine g_X10_0 C hV q_1391 dX10_chapterLine_37 ?_
    refine lv_if_le (tgt := 45) hx hb dX10_chapterLine_40 (by decide) (fun b_6 => ?_) (fun b_6 => ?_)
    · have hr := it b_6 hr
      refine lv_aload_n hx hb dX10_chapterLine_45 rfl (lv_at hl 0 rfl) ?_
      refine lv_iload_n hx hb dX10_chapterLine_46 rfl (lv_at hl 1 rfl) ?_
      obtain ⟨q7, e7, hr⟩ := ob hr
      refine cal_v (run_V (As := [.int x1]) (rest := []) C hV hS (c_X10_looksAt l G b0 (up V 208 0 y0) x1 q7 e7) (rcv hK hV (kd_lt z_208 (by decide)) (cel_20 z_208) rfl) q_1538 q_1540 q_105 q_151 q_1541 dk_X10_looksAt (rm_ok (by decide) (by decide)) hl.1 rfl (Nat.le_of_ble_eq_true rfl) dX10_chapterLine_47 ⟨Nat.zero_le _, Nat.zero_le _⟩) hS (fun H locs hV hS => ?_)
      refine lv_aload_n hx hb dX10_chapterLine_50 rfl (lv_at hl 0 rfl) ?_
      refine lv_iload_n hx hb dX10_chapterLine_51 rfl (lv_at hl 2 rfl) ?_
      refine lv_aload_n hx hb dX10_chapterLine_52 rfl (lv_at hl 0 rfl) ?_
      refine g_X10_19 C hV q_1410 dX10_chapterLine_53 ?_
      obtain ⟨q8, e8, hr⟩ := ob hr
      refine cal_i (run_V (As := [.int x2, .int (q7 208 19)]) (rest := []) C hV hS (c_X10_together l G b0 q7 x2 (q7 208 19) q8 e8) (rcv hK hV (kd_lt z_208 (by decide)) (cel_20 z_208) rfl) q_1551 q_1553 q_107 q_151 q_1554 dk_X10_together (rm_ok (by decide) (by decide)) hl.1 rfl (Nat.le_of_ble_eq_true rfl) dX10_chapterLine_56 ⟨Nat.zero_le _, Nat.zero_le _⟩) hS (fun H locs hV hS => ?_)
      refine lv_istore_n (lv' := [(3, .int q8), (0, .ref (b0 + 208)), (1, .int x1), (2, .int x2)]) hx hb dX10_chapterLine_59 rfl hl (by decide) rfl (fun ls hl => ?_)
      refine lv_aload_n hx hb dX10_chapterLine_60 rfl (lv_at hl 1 rfl) ?_
      refine lv_iconst (v := 0) hx hb dX10_chapterLine_61 (by decide) ?_
      refine p_X10_11 (x := 0) C hV hS q_1402 dX10_chapterLine_62 (fun H locs hV hS => ?_)
      refine lv_iconst (v := 0) hx hb dX10_chapterLine_65 (by decide) ?_
      refine lv_istore (lv' := [(4, .int 0), (3, .int q8), (0, .ref (b0 + 208)), (1, .int x1), (2, .int x2)]) hx hb dX10_chapterLine_66 hl (by decide) rfl (fun ls hl => ?_)
      exact K_68 500 _ x1 q8 0 hr _ _ ls hV hS (lv_sub hl [2, 3, 1, 0] rfl)
    · have hr := ie b_6 hr
      refine lv_iconst (v := 0) hx hb dX10_chapterLine_43 (by decide) ?_
      rw [← Option.some.inj hr]
      exact fin_i C hV hS rfl dX10_chapterLine_44
  have K_15 : ∀ (V : St) (x1 : Int32) (x2 : Int32), f_X10_chapterLine_b15 V x1 x2 = some res → ∀ (H : Heap) (locs : List Loc) (ls : Array Slot), Hd G b0 V H → va_S (Ab b0) s.heap H locs → lv_has ls 5 [(0, .ref (b0 + 208)), (1, .int x1), (2, .int x2)] → W p l e (rm 2) s m args below meth c H locs 0 0 (MQ below (QI G b0 res.1 res.2) args s 0 0 (Ab b0)) (F0 m 15 ls [.ref (b0 + 208)]) := by
    intro V x1 x2 hr H locs ls hV hS hl
    unfold f_X10_chapterLine_b15 at hr
    refine lv_iconst (v := 1) hx hb dX10_chapterLine_15 (by decide) ?_
    refine lv_goto (tgt := 33) hx hb dX10_chapterLine_16 (by decide) ?_
    exact K_33 _ x1 x2 1 hr _ _ ls hV hS (lv_sub hl [0, 1, 2] rfl)
  unfold f_X10_chapterLine at hr
  refine lv_aload_n hx hb dX10_chapterLine_0 rfl (lv_at hl 0 rfl) ?_
  refine lv_iload_n hx hb dX10_chapterLine_1 rfl (lv_at hl 1 rfl) ?_
  obtain ⟨q9, e9, hr⟩ := ob hr
  refine cal_i (run_S (As := [.int x1]) (rest := [.ref (b0 + 208)]) C hV hS (c_X10_isNet l G b0 V x1 q9 e9) q_1486 q_1487 q_151 q_1488 dk_X10_isNet (rm_ok (by decide) (by decide)) hl.1 rfl (Nat.le_of_ble_eq_true rfl) dX10_chapterLine_2 ⟨Nat.zero_le _, Nat.zero_le _⟩) hS (fun H locs hV hS => ?_)
  refine lv_if_eq (tgt := 15) hx hb dX10_chapterLine_5 (by decide) (fun b_10 => ?_) (fun b_10 => ?_)
  · have hr := it b_10 hr
    exact K_15 _ x1 x2 hr _ _ ls hV hS (lv_sub hl [0, 1, 2] rfl)
  · have hr := ie b_10 hr
    refine lv_iload_n hx hb dX10_chapterLine_8 rfl (lv_at hl 2 rfl) ?_
    obtain ⟨q11, e11, hr⟩ := ob hr
    refine cal_i (run_S (As := [.int x2]) (rest := [.ref (b0 + 208)]) C hV hS (c_X10_isPlace l G b0 V x2 q11 e11) q_1496 q_1497 q_151 q_1498 dk_X10_isPlace (rm_ok (by decide) (by decide)) hl.1 rfl (Nat.le_of_ble_eq_true rfl) dX10_chapterLine_9 ⟨Nat.zero_le _, Nat.zero_le _⟩) hS (fun H locs hV hS => ?_)
    refine lv_if_ne (tgt := 19) hx hb dX10_chapterLine_12 (by decide) (fun b_12 => ?_) (fun b_12 => ?_)
    · have hr := ie b_12 hr
      refine lv_aload_n hx hb dX10_chapterLine_19 rfl (lv_at hl 0 rfl) ?_
      refine lv_iload_n hx hb dX10_chapterLine_20 rfl (lv_at hl 1 rfl) ?_
      refine lv_iload_n hx hb dX10_chapterLine_21 rfl (lv_at hl 2 rfl) ?_
      obtain ⟨q13, e13, hr⟩ := ob hr
      refine cal_i (run_V (As := [.int x1, .int x2]) (rest := [.ref (b0 + 208)]) C hV hS (c_X10_kind l G b0 V x1 x2 q13 e13) (rcv hK hV (kd_lt z_208 (by decide)) (cel_20 z_208) rfl) q_1499 q_1501 q_97 q_151 q_1502 dk_X10_kind (rm_ok (by decide) (by decide)) hl.1 rfl (Nat.le_of_ble_eq_true rfl) dX10_chapterLine_22 ⟨Nat.zero_le _, Nat.zero_le _⟩) hS (fun H locs hV hS => ?_)
      refine lv_if_ne (tgt := 32) hx hb dX10_chapterLine_25 (by decide) (fun b_14 => ?_) (fun b_14 => ?_)
      · have hr := ie b_14 hr
        refine lv_iconst (v := 0) hx hb dX10_chapterLine_32 (by decide) ?_
        exact K_33 _ x1 x2 0 hr _ _ ls hV hS (lv_sub hl [0, 1, 2] rfl)
      · have hr := it b_14 hr
        refine lv_iconst (v := 2) hx hb dX10_chapterLine_28 (by decide) ?_
        refine lv_goto (tgt := 33) hx hb dX10_chapterLine_29 (by decide) ?_
        exact K_33 _ x1 x2 2 hr _ _ ls hV hS (lv_sub hl [0, 1, 2] rfl)
    · have hr := it b_12 hr
      exact K_15 _ x1 x2 hr _ _ ls hV hS (lv_sub hl [0, 1, 2] rfl)
