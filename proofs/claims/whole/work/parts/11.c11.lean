set_option maxHeartbeats 4000000 in
set_option maxRecDepth 100000 in
theorem c_X10_bits (l : Launch) (G : LG) (b0 : Nat) (V : St) (x0 : Int32) (res : Int32) (hr : f_X10_bits x0 = some res) : Met l yX10_bits (wy yX10_bits cX10_bits 3 (some .int)) (rm 0) (va_Pc [.int x0] (Iv G b0 V)) (QI G b0 res V) 0 0 (Ab b0) := by
  refine mk_m (by decide +kernel) (Nat.le_of_ble_eq_true rfl) ?_
  intro p e s m below meth c C hV hS ls hl
  obtain ⟨args, hargs⟩ : ∃ z, z = ([.int x0] : List Value).toArray := ⟨_, rfl⟩
  rw [← hargs] at C ⊢
  obtain ⟨hx, hb, hrt, hml, hown, hts, hlocks, hK, hSv⟩ := id C
  have hl : lv_has ls 3 [(0, .int x0)] := hl
  have K_4 : ∀ (n : Nat) (x0 : Int32) (x1 : Int32) (x2 : Int32), f_X10_bits_b4 n x0 x1 x2 = some res → ∀ (H : Heap) (locs : List Loc) (ls : Array Slot), Hd G b0 V H → va_S (Ab b0) s.heap H locs → lv_has ls 3 [(0, .int x0), (1, .int x1), (2, .int x2)] → W p l e (rm 0) s m args below meth c H locs 0 0 (MQ below (QI G b0 res V) args s 0 0 (Ab b0)) (F0 m 4 ls []) := by
    intro  n
    induction n with
    | zero =>
      intro x0 x1 x2 hr
      rw [f_X10_bits_b4] at hr
      cases hr
    | succ n ih =>
      intro x0 x1 x2 hr H locs ls hV hS hl
      rw [f_X10_bits_b4] at hr
      refine lv_iload_n hx hb dX10_bits_4 rfl (lv_at hl 2 rfl) ?_
      refine lv_bipush (v := 24) hx hb dX10_bits_5 (by decide) ?_
      refine lv_icmp_ge (tgt := 24) hx hb dX10_bits_7 (by decide) (fun b_1 => ?_) (fun b_1 => ?_)
      · have hr := it b_1 hr
        refine lv_iload_n hx hb dX10_bits_24 rfl (lv_at hl 1 rfl) ?_
        exact fin_i C hV hS (Option.some.inj hr) dX10_bits_25
      · have hr := ie b_1 hr
        refine lv_iload_n hx hb dX10_bits_10 rfl (lv_at hl 1 rfl) ?_
        refine lv_iload_n hx hb dX10_bits_11 rfl (lv_at hl 0 rfl) ?_
        refine lv_iload_n hx hb dX10_bits_12 rfl (lv_at hl 2 rfl) ?_
        refine lv_ishr hx hb dX10_bits_13 ?_
        refine lv_iconst (v := 1) hx hb dX10_bits_14 (by decide) ?_
        refine lv_iand hx hb dX10_bits_15 ?_
        refine lv_iadd hx hb dX10_bits_16 ?_
        refine lv_istore_n (lv' := [(1, .int (x1 + ((x0 >>> (x2 &&& 31)) &&& 1))), (0, .int x0), (2, .int x2)]) hx hb dX10_bits_17 rfl hl (by decide) rfl (fun ls hl => ?_)
        refine lv_iinc (v := x2 + 1) (lv' := [(2, .int (x2 + 1)), (1, .int (x1 + ((x0 >>> (x2 &&& 31)) &&& 1))), (0, .int x0)]) hx hb dX10_bits_18 hl (k := 2) rfl rfl (by decide) rfl (fun ls hl => ?_)
        refine lv_goto (tgt := 4) hx hb dX10_bits_21 (by decide) ?_
        exact ih x0 (x1 + ((x0 >>> (x2 &&& 31)) &&& 1)) (x2 + 1) hr _ _ ls hV hS (lv_sub hl [2, 1, 0] rfl)
  unfold f_X10_bits at hr
  refine lv_iconst (v := 0) hx hb dX10_bits_0 (by decide) ?_
  refine lv_istore_n (lv' := [(1, .int 0), (0, .int x0)]) hx hb dX10_bits_1 rfl hl (by decide) rfl (fun ls hl => ?_)
  refine lv_iconst (v := 0) hx hb dX10_bits_2 (by decide) ?_
  refine lv_istore_n (lv' := [(2, .int 0), (1, .int 0), (0, .int x0)]) hx hb dX10_bits_3 rfl hl (by decide) rfl (fun ls hl => ?_)
  exact K_4 500 x0 0 0 hr _ _ ls hV hS (lv_sub hl [2, 1, 0] rfl)
set_option maxHeartbeats 4000000 in
set_option maxRecDepth 100000 in
theorem c_X10_lowest (l : Launch) (G : LG) (b0 : Nat) (V : St) (x0 : Int32) (res : Int32) (hr : f_X10_lowest x0 = some res) : Met l yX10_lowest (wy yX10_lowest cX10_lowest 2 (some .int)) (rm 0) (va_Pc [.int x0] (Iv G b0 V)) (QI G b0 res V) 0 0 (Ab b0) := by
  refine mk_m (by decide +kernel) (Nat.le_of_ble_eq_true rfl) ?_
  intro p e s m below meth c C hV hS ls hl
  obtain ⟨args, hargs⟩ : ∃ z, z = ([.int x0] : List Value).toArray := ⟨_, rfl⟩
  rw [← hargs] at C ⊢
  obtain ⟨hx, hb, hrt, hml, hown, hts, hlocks, hK, hSv⟩ := id C
  have hl : lv_has ls 2 [(0, .int x0)] := hl
  have K_2 : ∀ (n : Nat) (x0 : Int32) (x1 : Int32), f_X10_lowest_b2 n x0 x1 = some res → ∀ (H : Heap) (locs : List Loc) (ls : Array Slot), Hd G b0 V H → va_S (Ab b0) s.heap H locs → lv_has ls 2 [(0, .int x0), (1, .int x1)] → W p l e (rm 0) s m args below meth c H locs 0 0 (MQ below (QI G b0 res V) args s 0 0 (Ab b0)) (F0 m 2 ls []) := by
    intro  n
    induction n with
    | zero =>
      intro x0 x1 hr
      rw [f_X10_lowest_b2] at hr
      cases hr
    | succ n ih =>
      intro x0 x1 hr H locs ls hV hS hl
      rw [f_X10_lowest_b2] at hr
      refine lv_iload_n hx hb dX10_lowest_2 rfl (lv_at hl 1 rfl) ?_
      refine lv_bipush (v := 24) hx hb dX10_lowest_3 (by decide) ?_
      refine lv_icmp_ge (tgt := 25) hx hb dX10_lowest_5 (by decide) (fun b_1 => ?_) (fun b_1 => ?_)
      · have hr := it b_1 hr
        refine lv_iconst (v := (-1)) hx hb dX10_lowest_25 (by decide) ?_
        exact fin_i C hV hS (Option.some.inj hr) dX10_lowest_26
      · have hr := ie b_1 hr
        refine lv_iload_n hx hb dX10_lowest_8 rfl (lv_at hl 0 rfl) ?_
        refine lv_iload_n hx hb dX10_lowest_9 rfl (lv_at hl 1 rfl) ?_
        refine lv_ishr hx hb dX10_lowest_10 ?_
        refine lv_iconst (v := 1) hx hb dX10_lowest_11 (by decide) ?_
        refine lv_iand hx hb dX10_lowest_12 ?_
        refine lv_iconst (v := 1) hx hb dX10_lowest_13 (by decide) ?_
        refine lv_icmp_ne (tgt := 19) hx hb dX10_lowest_14 (by decide) (fun b_2 => ?_) (fun b_2 => ?_)
        · have hr := ie b_2 hr
          refine lv_iinc (v := x1 + 1) (lv' := [(1, .int (x1 + 1)), (0, .int x0)]) hx hb dX10_lowest_19 hl (k := 1) rfl rfl (by decide) rfl (fun ls hl => ?_)
          refine lv_goto (tgt := 2) hx hb dX10_lowest_22 (by decide) ?_
          exact ih x0 (x1 + 1) hr _ _ ls hV hS (lv_sub hl [1, 0] rfl)
        · have hr := it b_2 hr
          refine lv_iload_n hx hb dX10_lowest_17 rfl (lv_at hl 1 rfl) ?_
          exact fin_i C hV hS (Option.some.inj hr) dX10_lowest_18
  unfold f_X10_lowest at hr
  refine lv_iconst (v := 0) hx hb dX10_lowest_0 (by decide) ?_
  refine lv_istore_n (lv' := [(1, .int 0), (0, .int x0)]) hx hb dX10_lowest_1 rfl hl (by decide) rfl (fun ls hl => ?_)
  exact K_2 500 x0 0 hr _ _ ls hV hS (lv_sub hl [1, 0] rfl)
set_option maxHeartbeats 4000000 in
set_option maxRecDepth 100000 in
theorem c_X10_looksAt (l : Launch) (G : LG) (b0 : Nat) (V : St) (x1 : Int32) (res : St) (hr : f_X10_looksAt V x1 = some res) : Met l yX10_looksAt (wy yX10_looksAt cX10_looksAt 2 none) (rm 1) (va_Pc [.ref (b0 + 208), .int x1] (Iv G b0 V)) (QV G b0 res) 0 0 (Ab b0) := by
  refine mk_m (by decide +kernel) (Nat.le_of_ble_eq_true rfl) ?_
  intro p e s m below meth c C hV hS ls hl
  obtain ⟨args, hargs⟩ : ∃ z, z = ([.ref (b0 + 208), .int x1] : List Value).toArray := ⟨_, rfl⟩
  rw [← hargs] at C ⊢
  obtain ⟨hx, hb, hrt, hml, hown, hts, hlocks, hK, hSv⟩ := id C
  have hl : lv_has ls 2 [(0, .ref (b0 + 208)), (1, .int x1)] := hl
  unfold f_X10_looksAt at hr
  refine lv_aload_n hx hb dX10_looksAt_0 rfl (lv_at hl 0 rfl) ?_
  refine lv_aload_n hx hb dX10_looksAt_1 rfl (lv_at hl 0 rfl) ?_
  refine lv_iload_n hx hb dX10_looksAt_2 rfl (lv_at hl 1 rfl) ?_
  refine lv_iconst (v := 0) hx hb dX10_looksAt_3 (by decide) ?_
  obtain ⟨q1, e1, hr⟩ := ob hr
  refine cal_i (run_V (As := [.int x1, .int 0]) (rest := [.ref (b0 + 208)]) C hV hS (c_X10_of l G b0 V x1 0 q1 e1) (rcv hK hV (kd_lt z_208 (by decide)) (cel_20 z_208) rfl) q_1503 q_1505 q_98 q_151 q_1506 dk_X10_of (rm_ok (by decide) (by decide)) hl.1 rfl (Nat.le_of_ble_eq_true rfl) dX10_looksAt_4 ⟨Nat.zero_le _, Nat.zero_le _⟩) hS (fun H locs hV hS => ?_)
  refine lv_aload_n hx hb dX10_looksAt_7 rfl (lv_at hl 0 rfl) ?_
  refine lv_iload_n hx hb dX10_looksAt_8 rfl (lv_at hl 1 rfl) ?_
  refine lv_iconst (v := 1) hx hb dX10_looksAt_9 (by decide) ?_
  obtain ⟨q2, e2, hr⟩ := ob hr
  refine cal_i (run_V (As := [.int x1, .int 1]) (rest := [.int q1, .ref (b0 + 208)]) C hV hS (c_X10_of l G b0 V x1 1 q2 e2) (rcv hK hV (kd_lt z_208 (by decide)) (cel_20 z_208) rfl) q_1503 q_1505 q_98 q_151 q_1506 dk_X10_of (rm_ok (by decide) (by decide)) hl.1 rfl (Nat.le_of_ble_eq_true rfl) dX10_looksAt_10 ⟨Nat.zero_le _, Nat.zero_le _⟩) hS (fun H locs hV hS => ?_)
  refine lv_ior hx hb dX10_looksAt_13 ?_
  refine p_X10_19 (x := (q1 ||| q2)) C hV hS q_1410 dX10_looksAt_14 (fun H locs hV hS => ?_)
  refine lv_aload_n hx hb dX10_looksAt_17 rfl (lv_at hl 0 rfl) ?_
  refine lv_ldc (v := 8255455) hx hb hown (hts _ q_1542) dX10_looksAt_18 ?_
  refine lv_aload_n hx hb dX10_looksAt_20 rfl (lv_at hl 0 rfl) ?_
  refine lv_iload_n hx hb dX10_looksAt_21 rfl (lv_at hl 1 rfl) ?_
  refine lv_iconst (v := 2) hx hb dX10_looksAt_22 (by decide) ?_
  obtain ⟨q3, e3, hr⟩ := ob hr
  refine cal_i (run_V (As := [.int x1, .int 2]) (rest := [.int 8255455, .ref (b0 + 208)]) C hV hS (c_X10_of l G b0 (up V 208 19 (q1 ||| q2)) x1 2 q3 e3) (rcv hK hV (kd_lt z_208 (by decide)) (cel_20 z_208) rfl) q_1503 q_1505 q_98 q_151 q_1506 dk_X10_of (rm_ok (by decide) (by decide)) hl.1 rfl (Nat.le_of_ble_eq_true rfl) dX10_looksAt_23 ⟨Nat.zero_le _, Nat.zero_le _⟩) hS (fun H locs hV hS => ?_)
  refine lv_iconst (v := (-1)) hx hb dX10_looksAt_26 (by decide) ?_
  refine lv_ixor hx hb dX10_looksAt_27 ?_
  refine lv_iand hx hb dX10_looksAt_28 ?_
  refine p_X10_20 (x := (8255455 &&& (q3 ^^^ (-1)))) C hV hS q_1411 dX10_looksAt_29 (fun H locs hV hS => ?_)
  refine lv_aload_n hx hb dX10_looksAt_32 rfl (lv_at hl 0 rfl) ?_
  refine lv_ldc (v := 262143) hx hb hown (hts _ q_1543) dX10_looksAt_33 ?_
  refine lv_aload_n hx hb dX10_looksAt_35 rfl (lv_at hl 0 rfl) ?_
  refine lv_iload_n hx hb dX10_looksAt_36 rfl (lv_at hl 1 rfl) ?_
  refine lv_iconst (v := 3) hx hb dX10_looksAt_37 (by decide) ?_
  obtain ⟨q4, e4, hr⟩ := ob hr
  refine cal_i (run_V (As := [.int x1, .int 3]) (rest := [.int 262143, .ref (b0 + 208)]) C hV hS (c_X10_of l G b0 (up (up V 208 19 (q1 ||| q2)) 208 20 (8255455 &&& (q3 ^^^ (-1)))) x1 3 q4 e4) (rcv hK hV (kd_lt z_208 (by decide)) (cel_20 z_208) rfl) q_1503 q_1505 q_98 q_151 q_1506 dk_X10_of (rm_ok (by decide) (by decide)) hl.1 rfl (Nat.le_of_ble_eq_true rfl) dX10_looksAt_38 ⟨Nat.zero_le _, Nat.zero_le _⟩) hS (fun H locs hV hS => ?_)
  refine lv_iconst (v := (-1)) hx hb dX10_looksAt_41 (by decide) ?_
  refine lv_ixor hx hb dX10_looksAt_42 ?_
  refine lv_iand hx hb dX10_looksAt_43 ?_
  refine p_X10_21 (x := (262143 &&& (q4 ^^^ (-1)))) C hV hS q_1412 dX10_looksAt_44 (fun H locs hV hS => ?_)
  exact fin_v C hV hS (Option.some.inj hr) dX10_looksAt_47
set_option maxHeartbeats 4000000 in
set_option maxRecDepth 100000 in
theorem c_X10_spread (l : Launch) (G : LG) (b0 : Nat) (V : St) (x1 : Int32) (res : Int32) (hr : f_X10_spread V x1 = some res) : Met l yX10_spread (wy yX10_spread cX10_spread 2 (some .int)) (rm 0) (va_Pc [.ref (b0 + 208), .int x1] (Iv G b0 V)) (QI G b0 res V) 0 0 (Ab b0) := by
  refine mk_m (by decide +kernel) (Nat.le_of_ble_eq_true rfl) ?_
  intro p e s m below meth c C hV hS ls hl
  obtain ⟨args, hargs⟩ : ∃ z, z = ([.ref (b0 + 208), .int x1] : List Value).toArray := ⟨_, rfl⟩
  rw [← hargs] at C ⊢
  obtain ⟨hx, hb, hrt, hml, hown, hts, hlocks, hK, hSv⟩ := id C
  have hl : lv_has ls 2 [(0, .ref (b0 + 208)), (1, .int x1)] := hl
  unfold f_X10_spread at hr
  refine lv_iload_n hx hb dX10_spread_0 rfl (lv_at hl 1 rfl) ?_
  refine lv_iload_n hx hb dX10_spread_1 rfl (lv_at hl 1 rfl) ?_
  refine lv_aload_n hx hb dX10_spread_2 rfl (lv_at hl 0 rfl) ?_
  refine g_X10_20 C hV q_1411 dX10_spread_3 ?_
  refine lv_iand hx hb dX10_spread_6 ?_
  refine lv_iconst (v := 1) hx hb dX10_spread_7 (by decide) ?_
  refine lv_ishl hx hb dX10_spread_8 ?_
  refine lv_ior hx hb dX10_spread_9 ?_
  refine lv_iload_n hx hb dX10_spread_10 rfl (lv_at hl 1 rfl) ?_
  refine lv_iconst (v := 1) hx hb dX10_spread_11 (by decide) ?_
  refine lv_ishr hx hb dX10_spread_12 ?_
  refine lv_aload_n hx hb dX10_spread_13 rfl (lv_at hl 0 rfl) ?_
  refine g_X10_20 C hV q_1411 dX10_spread_14 ?_
  refine lv_iand hx hb dX10_spread_17 ?_
  refine lv_ior hx hb dX10_spread_18 ?_
  refine lv_iload_n hx hb dX10_spread_19 rfl (lv_at hl 1 rfl) ?_
  refine lv_aload_n hx hb dX10_spread_20 rfl (lv_at hl 0 rfl) ?_
  refine g_X10_21 C hV q_1412 dX10_spread_21 ?_
  refine lv_iand hx hb dX10_spread_24 ?_
  refine lv_bipush (v := 6) hx hb dX10_spread_25 (by decide) ?_
  refine lv_ishl hx hb dX10_spread_27 ?_
  refine lv_ior hx hb dX10_spread_28 ?_
  refine lv_iload_n hx hb dX10_spread_29 rfl (lv_at hl 1 rfl) ?_
  refine lv_bipush (v := 6) hx hb dX10_spread_30 (by decide) ?_
  refine lv_ishr hx hb dX10_spread_32 ?_
  refine lv_aload_n hx hb dX10_spread_33 rfl (lv_at hl 0 rfl) ?_
  refine g_X10_21 C hV q_1412 dX10_spread_34 ?_
  refine lv_iand hx hb dX10_spread_37 ?_
  refine lv_ior hx hb dX10_spread_38 ?_
  exact fin_i C hV hS (Option.some.inj hr) dX10_spread_39
set_option maxHeartbeats 4000000 in
set_option maxRecDepth 100000 in
theorem c_X10_together (l : Launch) (G : LG) (b0 : Nat) (V : St) (x1 : Int32) (x2 : Int32) (res : Int32) (hr : f_X10_together V x1 x2 = some res) : Met l yX10_together (wy yX10_together cX10_together 5 (some .int)) (rm 1) (va_Pc [.ref (b0 + 208), .int x1, .int x2] (Iv G b0 V)) (QI G b0 res V) 0 0 (Ab b0) := by
  refine mk_m (by decide +kernel) (Nat.le_of_ble_eq_true rfl) ?_
  intro p e s m below meth c C hV hS ls hl
  obtain ⟨args, hargs⟩ : ∃ z, z = ([.ref (b0 + 208), .int x1, .int x2] : List Value).toArray := ⟨_, rfl⟩
  rw [← hargs] at C ⊢
  obtain ⟨hx, hb, hrt, hml, hown, hts, hlocks, hK, hSv⟩ := id C
  have hl : lv_has ls 5 [(0, .ref (b0 + 208)), (1, .int x1), (2, .int x2)] := hl
  have K_13 : ∀ (n : Nat) (x2 : Int32) (x3 : Int32) (x4 : Int32), f_X10_together_b13 n V x2 x3 x4 = some res → ∀ (H : Heap) (locs : List Loc) (ls : Array Slot), Hd G b0 V H → va_S (Ab b0) s.heap H locs → lv_has ls 5 [(0, .ref (b0 + 208)), (2, .int x2), (3, .int x3), (4, .int x4)] → W p l e (rm 1) s m args below meth c H locs 0 0 (MQ below (QI G b0 res V) args s 0 0 (Ab b0)) (F0 m 13 ls []) := by
    intro  n
    induction n with
    | zero =>
      intro x2 x3 x4 hr
      rw [f_X10_together_b13] at hr
      cases hr
    | succ n ih =>
      intro x2 x3 x4 hr H locs ls hV hS hl
      rw [f_X10_together_b13] at hr
      refine lv_iload hx hb dX10_together_13 (lv_at hl 3 rfl) ?_
      refine lv_iload_n hx hb dX10_together_15 rfl (lv_at hl 2 rfl) ?_
      refine lv_icmp_eq (tgt := 34) hx hb dX10_together_16 (by decide) (fun b_1 => ?_) (fun b_1 => ?_)
      · have hr := it b_1 hr
        refine lv_iload_n hx hb dX10_together_34 rfl (lv_at hl 2 rfl) ?_
        exact fin_i C hV hS (Option.some.inj hr) dX10_together_35
      · have hr := ie b_1 hr
        refine lv_iload hx hb dX10_together_19 (lv_at hl 3 rfl) ?_
        refine lv_istore_n (lv' := [(3, .int x4), (0, .ref (b0 + 208)), (2, .int x2), (4, .int x4)]) hx hb dX10_together_21 rfl hl (by decide) rfl (fun ls hl => ?_)
        refine lv_aload_n hx hb dX10_together_22 rfl (lv_at hl 1 rfl) ?_
        refine lv_iload_n hx hb dX10_together_23 rfl (lv_at hl 0 rfl) ?_
        obtain ⟨q2, e2, hr⟩ := ob hr
        refine cal_i (run_V (As := [.int x4]) (rest := []) C hV hS (c_X10_spread l G b0 V x4 q2 e2) (rcv hK hV (kd_lt z_208 (by decide)) (cel_20 z_208) rfl) q_1555 q_1557 q_108 q_151 q_1558 dk_X10_spread (rm_ok (by decide) (by decide)) hl.1 rfl (Nat.le_of_ble_eq_true rfl) dX10_together_24 ⟨Nat.zero_le _, Nat.zero_le _⟩) hS (fun H locs hV hS => ?_)
        refine lv_iload_n hx hb dX10_together_27 rfl (lv_at hl 2 rfl) ?_
        refine lv_iand hx hb dX10_together_28 ?_
        refine lv_istore (lv' := [(4, .int (q2 &&& x2)), (3, .int x4), (0, .ref (b0 + 208)), (2, .int x2)]) hx hb dX10_together_29 hl (by decide) rfl (fun ls hl => ?_)
        refine lv_goto (tgt := 13) hx hb dX10_together_31 (by decide) ?_
        exact ih x2 x4 (q2 &&& x2) hr _ _ ls hV hS (lv_sub hl [2, 3, 1, 0] rfl)
  unfold f_X10_together at hr
  refine lv_iconst (v := 1) hx hb dX10_together_0 (by decide) ?_
  refine lv_iload_n hx hb dX10_together_1 rfl (lv_at hl 1 rfl) ?_
  refine lv_ishl hx hb dX10_together_2 ?_
  refine lv_istore_n (lv' := [(3, .int (1 <<< (x1 &&& 31))), (0, .ref (b0 + 208)), (1, .int x1), (2, .int x2)]) hx hb dX10_together_3 rfl hl (by decide) rfl (fun ls hl => ?_)
  refine lv_aload_n hx hb dX10_together_4 rfl (lv_at hl 1 rfl) ?_
  refine lv_iload_n hx hb dX10_together_5 rfl (lv_at hl 0 rfl) ?_
  obtain ⟨q3, e3, hr⟩ := ob hr
  refine cal_i (run_V (As := [.int (1 <<< (x1 &&& 31))]) (rest := []) C hV hS (c_X10_spread l G b0 V (1 <<< (x1 &&& 31)) q3 e3) (rcv hK hV (kd_lt z_208 (by decide)) (cel_20 z_208) rfl) q_1555 q_1557 q_108 q_151 q_1558 dk_X10_spread (rm_ok (by decide) (by decide)) hl.1 rfl (Nat.le_of_ble_eq_true rfl) dX10_together_6 ⟨Nat.zero_le _, Nat.zero_le _⟩) hS (fun H locs hV hS => ?_)
  refine lv_iload_n hx hb dX10_together_9 rfl (lv_at hl 3 rfl) ?_
  refine lv_iand hx hb dX10_together_10 ?_
  refine lv_istore (lv' := [(4, .int (q3 &&& x2)), (3, .int (1 <<< (x1 &&& 31))), (0, .ref (b0 + 208)), (1, .int x1), (2, .int x2)]) hx hb dX10_together_11 hl (by decide) rfl (fun ls hl => ?_)
  exact K_13 500 x2 (1 <<< (x1 &&& 31)) (q3 &&& x2) hr _ _ ls hV hS (lv_sub hl [2, 4, 1, 0] rfl)
set_option maxHeartbeats 4000000 in
set_option maxRecDepth 100000 in
theorem c_X10_partsOf (l : Launch) (G : LG) (b0 : Nat) (V : St) (x1 : Int32) (res : Int32) (hr : f_X10_partsOf V x1 = some res) : Met l yX10_partsOf (wy yX10_partsOf cX10_partsOf 4 (some .int)) (rm 2) (va_Pc [.ref (b0 + 208), .int x1] (Iv G b0 V)) (QI G b0 res V) 0 0 (Ab b0) := by
  refine mk_m (by decide +kernel) (Nat.le_of_ble_eq_true rfl) ?_
  intro p e s m below meth c C hV hS ls hl
  obtain ⟨args, hargs⟩ : ∃ z, z = ([.ref (b0 + 208), .int x1] : List Value).toArray := ⟨_, rfl⟩
  rw [← hargs] at C ⊢
  obtain ⟨hx, hb, hrt, hml, hown, hts, hlocks, hK, hSv⟩ := id C
  have hl : lv_has ls 4 [(0, .ref (b0 + 208)), (1, .int x1)] := hl
  have K_4 : ∀ (n : Nat) (x1 : Int32) (x2 : Int32) (x3 : Int32), f_X10_partsOf_b4 n V x1 x2 x3 = some res → ∀ (H : Heap) (locs : List Loc) (ls : Array Slot), Hd G b0 V H → va_S (Ab b0) s.heap H locs → lv_has ls 4 [(0, .ref (b0 + 208)), (1, .int x1), (2, .int x2), (3, .int x3)] → W p l e (rm 2) s m args below meth c H locs 0 0 (MQ below (QI G b0 res V) args s 0 0 (Ab b0)) (F0 m 4 ls []) := by
    intro  n
    induction n with
    | zero =>
      intro x1 x2 x3 hr
      rw [f_X10_partsOf_b4] at hr
      cases hr
    | succ n ih =>
      intro x1 x2 x3 hr H locs ls hV hS hl
      rw [f_X10_partsOf_b4] at hr
      refine lv_iload_n hx hb dX10_partsOf_4 rfl (lv_at hl 2 rfl) ?_
      refine lv_if_eq (tgt := 28) hx hb dX10_partsOf_5 (by decide) (fun b_1 => ?_) (fun b_1 => ?_)
      · have hr := it b_1 hr
        refine lv_iload_n hx hb dX10_partsOf_28 rfl (lv_at hl 3 rfl) ?_
        exact fin_i C hV hS (Option.some.inj hr) dX10_partsOf_29
      · have hr := ie b_1 hr
        refine lv_iload_n hx hb dX10_partsOf_8 rfl (lv_at hl 2 rfl) ?_
        refine lv_aload_n hx hb dX10_partsOf_9 rfl (lv_at hl 0 rfl) ?_
        refine lv_iload_n hx hb dX10_partsOf_10 rfl (lv_at hl 2 rfl) ?_
        obtain ⟨q2, e2, hr⟩ := ob hr
        refine cal_i (run_S (As := [.int x2]) (rest := [.ref (b0 + 208), .int x2]) C hV hS (c_X10_lowest l G b0 V x2 q2 e2) q_1548 q_1549 q_151 q_1550 dk_X10_lowest (rm_ok (by decide) (by decide)) hl.1 rfl (Nat.le_of_ble_eq_true rfl) dX10_partsOf_11 ⟨Nat.zero_le _, Nat.zero_le _⟩) hS (fun H locs hV hS => ?_)
        refine lv_iload_n hx hb dX10_partsOf_14 rfl (lv_at hl 1 rfl) ?_
        obtain ⟨q3, e3, hr⟩ := ob hr
        refine cal_i (run_V (As := [.int q2, .int x1]) (rest := [.int x2]) C hV hS (c_X10_together l G b0 V q2 x1 q3 e3) (rcv hK hV (kd_lt z_208 (by decide)) (cel_20 z_208) rfl) q_1551 q_1553 q_107 q_151 q_1554 dk_X10_together (rm_ok (by decide) (by decide)) hl.1 rfl (Nat.le_of_ble_eq_true rfl) dX10_partsOf_15 ⟨Nat.zero_le _, Nat.zero_le _⟩) hS (fun H locs hV hS => ?_)
        refine lv_iconst (v := (-1)) hx hb dX10_partsOf_18 (by decide) ?_
        refine lv_ixor hx hb dX10_partsOf_19 ?_
        refine lv_iand hx hb dX10_partsOf_20 ?_
        refine lv_istore_n (lv' := [(2, .int (x2 &&& (q3 ^^^ (-1)))), (0, .ref (b0 + 208)), (1, .int x1), (3, .int x3)]) hx hb dX10_partsOf_21 rfl hl (by decide) rfl (fun ls hl => ?_)
        refine lv_iinc (v := x3 + 1) (lv' := [(3, .int (x3 + 1)), (2, .int (x2 &&& (q3 ^^^ (-1)))), (0, .ref (b0 + 208)), (1, .int x1)]) hx hb dX10_partsOf_22 hl (k := 3) rfl rfl (by decide) rfl (fun ls hl => ?_)
        refine lv_goto (tgt := 4) hx hb dX10_partsOf_25 (by decide) ?_
        exact ih x1 (x2 &&& (q3 ^^^ (-1))) (x3 + 1) hr _ _ ls hV hS (lv_sub hl [2, 3, 1, 0] rfl)
  unfold f_X10_partsOf at hr
  refine lv_iload_n hx hb dX10_partsOf_0 rfl (lv_at hl 1 rfl) ?_
  refine lv_istore_n (lv' := [(2, .int x1), (0, .ref (b0 + 208)), (1, .int x1)]) hx hb dX10_partsOf_1 rfl hl (by decide) rfl (fun ls hl => ?_)
  refine lv_iconst (v := 0) hx hb dX10_partsOf_2 (by decide) ?_
  refine lv_istore_n (lv' := [(3, .int 0), (2, .int x1), (0, .ref (b0 + 208)), (1, .int x1)]) hx hb dX10_partsOf_3 rfl hl (by decide) rfl (fun ls hl => ?_)
  exact K_4 500 x1 x1 0 hr _ _ ls hV hS (lv_sub hl [2, 3, 1, 0] rfl)
set_option maxHeartbeats 4000000 in
set_option maxRecDepth 100000 in
theorem c_X10_underWater (l : Launch) (G : LG) (b0 : Nat) (V : St) (x1 : Int32) (res : Int32) (hr : f_X10_underWater V x1 = some res) : Met l yX10_underWater (wy yX10_underWater cX10_underWater 3 (some .int)) (rm 1) (va_Pc [.ref (b0 + 208), .int x1] (Iv G b0 V)) (QI G b0 res V) 0 0 (Ab b0) := by
  refine mk_m (by decide +kernel) (Nat.le_of_ble_eq_true rfl) ?_
  intro p e s m below meth c C hV hS ls hl
  obtain ⟨args, hargs⟩ : ∃ z, z = ([.ref (b0 + 208), .int x1] : List Value).toArray := ⟨_, rfl⟩
  rw [← hargs] at C ⊢
  obtain ⟨hx, hb, hrt, hml, hown, hts, hlocks, hK, hSv⟩ := id C
  have hl : lv_has ls 3 [(0, .ref (b0 + 208)), (1, .int x1)] := hl
  unfold f_X10_underWater at hr
  refine lv_aload_n hx hb dX10_underWater_0 rfl (lv_at hl 0 rfl) ?_
  refine g_X10_1 C hV q_1392 dX10_underWater_1 ?_
  refine lv_iconst (v := 0) hx hb dX10_underWater_4 (by decide) ?_
  refine a_21 (k := 209) (i := 0) (j := 0) C hV z_209 (by decide) dX10_underWater_5 ?_
  refine lv_aload_n hx hb dX10_underWater_6 rfl (lv_at hl 0 rfl) ?_
  refine lv_iload_n hx hb dX10_underWater_7 rfl (lv_at hl 1 rfl) ?_
  refine lv_iconst (v := 4) hx hb dX10_underWater_8 (by decide) ?_
  obtain ⟨q1, e1, hr⟩ := ob hr
  refine cal_i (run_V (As := [.int x1, .int 4]) (rest := [.int (V 209 0)]) C hV hS (c_X10_of l G b0 V x1 4 q1 e1) (rcv hK hV (kd_lt z_208 (by decide)) (cel_20 z_208) rfl) q_1503 q_1505 q_98 q_151 q_1506 dk_X10_of (rm_ok (by decide) (by decide)) hl.1 rfl (Nat.le_of_ble_eq_true rfl) dX10_underWater_9 ⟨Nat.zero_le _, Nat.zero_le _⟩) hS (fun H locs hV hS => ?_)
  refine lv_iadd hx hb dX10_underWater_12 ?_
  refine lv_istore_n (lv' := [(2, .int ((V 209 0) + q1)), (0, .ref (b0 + 208)), (1, .int x1)]) hx hb dX10_underWater_13 rfl hl (by decide) rfl (fun ls hl => ?_)
  refine lv_iload_n hx hb dX10_underWater_14 rfl (lv_at hl 0 rfl) ?_
  refine lv_iconst (v := 4) hx hb dX10_underWater_15 (by decide) ?_
  refine lv_icmp_le (tgt := 23) hx hb dX10_underWater_16 (by decide) (fun b_2 => ?_) (fun b_2 => ?_)
  · have hr := it b_2 hr
    refine lv_iload_n hx hb dX10_underWater_23 rfl (lv_at hl 0 rfl) ?_
    exact fin_i C hV hS (Option.some.inj hr) dX10_underWater_24
  · have hr := ie b_2 hr
    refine lv_iconst (v := 4) hx hb dX10_underWater_19 (by decide) ?_
    refine lv_goto (tgt := 24) hx hb dX10_underWater_20 (by decide) ?_
    exact fin_i C hV hS (Option.some.inj hr) dX10_underWater_24
set_option maxHeartbeats 4000000 in
set_option maxRecDepth 100000 in
theorem c_X10_dry (l : Launch) (G : LG) (b0 : Nat) (V : St) (x1 : Int32) (res : Int32) (hr : f_X10_dry V x1 = some res) : Met l yX10_dry (wy yX10_dry cX10_dry 2 (some .int)) (rm 2) (va_Pc [.ref (b0 + 208), .int x1] (Iv G b0 V)) (QI G b0 res V) 0 0 (Ab b0) := by
  refine mk_m (by decide +kernel) (Nat.le_of_ble_eq_true rfl) ?_
  intro p e s m below meth c C hV hS ls hl
  obtain ⟨args, hargs⟩ : ∃ z, z = ([.ref (b0 + 208), .int x1] : List Value).toArray := ⟨_, rfl⟩
  rw [← hargs] at C ⊢
  obtain ⟨hx, hb, hrt, hml, hown, hts, hlocks, hK, hSv⟩ := id C
  have hl : lv_has ls 2 [(0, .ref (b0 + 208)), (1, .int x1)] := hl
  unfold f_X10_dry at hr
  refine lv_iconst (v := 1) hx hb dX10_dry_0 (by decide) ?_
  refine lv_bipush (v := 24) hx hb dX10_dry_1 (by decide) ?_
  refine lv_bipush (v := 6) hx hb dX10_dry_3 (by decide) ?_
  refine lv_aload_n hx hb dX10_dry_5 rfl (lv_at hl 0 rfl) ?_
  refine lv_iload_n hx hb dX10_dry_6 rfl (lv_at hl 1 rfl) ?_
  obtain ⟨q1, e1, hr⟩ := ob hr
  refine cal_i (run_V (As := [.int x1]) (rest := [.int 6, .int 24, .int 1]) C hV hS (c_X10_underWater l G b0 V x1 q1 e1) (rcv hK hV (kd_lt z_208 (by decide)) (cel_20 z_208) rfl) q_1591 q_1593 q_114 q_151 q_1594 dk_X10_underWater (rm_ok (by decide) (by decide)) hl.1 rfl (Nat.le_of_ble_eq_true rfl) dX10_dry_7 ⟨Nat.zero_le _, Nat.zero_le _⟩) hS (fun H locs hV hS => ?_)
  refine lv_imul hx hb dX10_dry_10 ?_
  refine lv_isub hx hb dX10_dry_11 ?_
  refine lv_ishl hx hb dX10_dry_12 ?_
  refine lv_iconst (v := 1) hx hb dX10_dry_13 (by decide) ?_
  refine lv_isub hx hb dX10_dry_14 ?_
  exact fin_i C hV hS (Option.some.inj hr) dX10_dry_15
set_option maxHeartbeats 4000000 in
set_option maxRecDepth 100000 in
theorem c_X10_ties (l : Launch) (G : LG) (b0 : Nat) (V : St) (x1 : Int32) (x2 : Int32) (x3 : Int32) (res : Int32 × St) (hr : f_X10_ties V x1 x2 x3 = some res) : Met l yX10_ties (wy yX10_ties cX10_ties 5 (some .int)) (rm 2) (va_Pc [.ref (b0 + 208), .int x1, .int x2, .int x3] (Iv G b0 V)) (QI G b0 res.1 res.2) 0 0 (Ab b0) := by
  refine mk_m (by decide +kernel) (Nat.le_of_ble_eq_true rfl) ?_
  intro p e s m below meth c C hV hS ls hl
  obtain ⟨args, hargs⟩ : ∃ z, z = ([.ref (b0 + 208), .int x1, .int x2, .int x3] : List Value).toArray := ⟨_, rfl⟩
  rw [← hargs] at C ⊢
  obtain ⟨hx, hb, hrt, hml, hown, hts, hlocks, hK, hSv⟩ := id C
  have hl : lv_has ls 5 [(0, .ref (b0 + 208)), (1, .int x1), (2, .int x2), (3, .int x3)] := hl
  have K_98 : ∀ (V : St) (x4 : Int32) (y0 : Int32) (y1 : Int32) (y2 : Int32) (y3 : Int32), f_X10_ties_b98 V x4 y0 y1 y2 y3 = some res → ∀ (H : Heap) (locs : List Loc) (ls : Array Slot), Hd G b0 V H → va_S (Ab b0) s.heap H locs → lv_has ls 5 [(0, .ref (b0 + 208)), (4, .int x4)] → W p l e (rm 2) s m args below meth c H locs 0 0 (MQ below (QI G b0 res.1 res.2) args s 0 0 (Ab b0)) (F0 m 98 ls [.int y0, .int y1, .int y2, .int y3, .ref (b0 + 208)]) := by
    intro V x4 y0 y1 y2 y3 hr H locs ls hV hS hl
    unfold f_X10_ties_b98 at hr
    obtain ⟨q1, e1, hr⟩ := ob hr
    refine cal_v (run_V (As := [.int y3, .int y2, .int y1, .int y0]) (rest := []) C hV hS (c_X10_sets l G b0 V y3 y2 y1 y0 q1 e1) (rcv hK hV (kd_lt z_208 (by decide)) (cel_20 z_208) rfl) q_1507 q_1509 q_99 q_151 q_1510 dk_X10_sets (rm_ok (by decide) (by decide)) hl.1 rfl (Nat.le_of_ble_eq_true rfl) dX10_ties_98 ⟨Nat.zero_le _, Nat.zero_le _⟩) hS (fun H locs hV hS => ?_)
    refine lv_aload_n hx hb dX10_ties_101 rfl (lv_at hl 0 rfl) ?_
    refine lv_iload hx hb dX10_ties_102 (lv_at hl 1 rfl) ?_
    obtain ⟨q2, e2, hr⟩ := ob hr
    refine cal_i (run_V (As := [.int x4]) (rest := []) C hV hS (c_X10_done l G b0 q1 x4 q2 e2) (rcv hK hV (kd_lt z_208 (by decide)) (cel_20 z_208) rfl) q_1511 q_1513 q_100 q_151 q_1514 dk_X10_done (rm_ok (by decide) (by decide)) hl.1 rfl (Nat.le_of_ble_eq_true rfl) dX10_ties_104 ⟨Nat.zero_le _, Nat.zero_le _⟩) hS (fun H locs hV hS => ?_)
    rw [← Option.some.inj hr]
    exact fin_i C hV hS rfl dX10_ties_107
  have K_81 : ∀ (V : St) (x1 : Int32) (x2 : Int32) (x3 : Int32) (x4 : Int32) (y0 : Int32) (y1 : Int32) (y2 : Int32) (y3 : Int32), f_X10_ties_b81 V x1 x2 x3 x4 y0 y1 y2 y3 = some res → ∀ (H : Heap) (locs : List Loc) (ls : Array Slot), Hd G b0 V H → va_S (Ab b0) s.heap H locs → lv_has ls 5 [(0, .ref (b0 + 208)), (1, .int x1), (2, .int x2), (3, .int x3), (4, .int x4)] → W p l e (rm 2) s m args below meth c H locs 0 0 (MQ below (QI G b0 res.1 res.2) args s 0 0 (Ab b0)) (F0 m 81 ls [.int y0, .int y1, .int y2, .int y3, .ref (b0 + 208)]) := by
    intro V x1 x2 x3 x4 y0 y1 y2 y3 hr H locs ls hV hS hl
    unfold f_X10_ties_b81 at hr
    obtain ⟨q3, e3, hr⟩ := ob hr
    refine cal_v (run_V (As := [.int y3, .int y2, .int y1, .int y0]) (rest := []) C hV hS (c_X10_sets l G b0 V y3 y2 y1 y0 q3 e3) (rcv hK hV (kd_lt z_208 (by decide)) (cel_20 z_208) rfl) q_1507 q_1509 q_99 q_151 q_1510 dk_X10_sets (rm_ok (by decide) (by decide)) hl.1 rfl (Nat.le_of_ble_eq_true rfl) dX10_ties_81 ⟨Nat.zero_le _, Nat.zero_le _⟩) hS (fun H locs hV hS => ?_)
    refine lv_aload_n hx hb dX10_ties_84 rfl (lv_at hl 0 rfl) ?_
    refine lv_iload_n hx hb dX10_ties_85 rfl (lv_at hl 1 rfl) ?_
    refine lv_iconst (v := 1) hx hb dX10_ties_86 (by decide) ?_
    refine lv_iload_n hx hb dX10_ties_87 rfl (lv_at hl 2 rfl) ?_
    refine lv_iload_n hx hb dX10_ties_88 rfl (lv_at hl 3 rfl) ?_
    refine lv_iconst (v := 1) hx hb dX10_ties_89 (by decide) ?_
    refine lv_icmp_le (tgt := 97) hx hb dX10_ties_90 (by decide) (fun b_4 => ?_) (fun b_4 => ?_)
    · have hr := it b_4 hr
      refine lv_iconst (v := 0) hx hb dX10_ties_97 (by decide) ?_
      exact K_98 _ x4 0 x2 1 x1 hr _ _ ls hV hS (lv_sub hl [0, 4] rfl)
    · have hr := ie b_4 hr
      refine lv_iconst (v := 1) hx hb dX10_ties_93 (by decide) ?_
      refine lv_goto (tgt := 98) hx hb dX10_ties_94 (by decide) ?_
      exact K_98 _ x4 1 x2 1 x1 hr _ _ ls hV hS (lv_sub hl [0, 4] rfl)
  unfold f_X10_ties at hr
  refine lv_iload_n hx hb dX10_ties_0 rfl (lv_at hl 1 rfl) ?_
  obtain ⟨q5, e5, hr⟩ := ob hr
  refine cal_i (run_S (As := [.int x1]) (rest := []) C hV hS (c_X10_isNet l G b0 V x1 q5 e5) q_1486 q_1487 q_151 q_1488 dk_X10_isNet (rm_ok (by decide) (by decide)) hl.1 rfl (Nat.le_of_ble_eq_true rfl) dX10_ties_1 ⟨Nat.zero_le _, Nat.zero_le _⟩) hS (fun H locs hV hS => ?_)
  refine lv_if_ne (tgt := 14) hx hb dX10_ties_4 (by decide) (fun b_6 => ?_) (fun b_6 => ?_)
  · have hr := ie b_6 hr
    refine lv_iload_n hx hb dX10_ties_14 rfl (lv_at hl 2 rfl) ?_
    obtain ⟨q7, e7, hr⟩ := ob hr
    refine cal_i (run_S (As := [.int x2]) (rest := []) C hV hS (c_X10_isPlace l G b0 V x2 q7 e7) q_1496 q_1497 q_151 q_1498 dk_X10_isPlace (rm_ok (by decide) (by decide)) hl.1 rfl (Nat.le_of_ble_eq_true rfl) dX10_ties_15 ⟨Nat.zero_le _, Nat.zero_le _⟩) hS (fun H locs hV hS => ?_)
    refine lv_if_ne (tgt := 28) hx hb dX10_ties_18 (by decide) (fun b_8 => ?_) (fun b_8 => ?_)
    · have hr := ie b_8 hr
      refine lv_iload_n hx hb dX10_ties_28 rfl (lv_at hl 3 rfl) ?_
      refine lv_iconst (v := 0) hx hb dX10_ties_29 (by decide) ?_
      refine lv_iconst (v := 3) hx hb dX10_ties_30 (by decide) ?_
      obtain ⟨q9, e9, hr⟩ := ob hr
      refine cal_i (run_S (As := [.int x3, .int 0, .int 3]) (rest := []) C hV hS (c_X10_in l G b0 V x3 0 3 q9 e9) q_1489 q_1490 q_151 q_1491 dk_X10_in (rm_ok (by decide) (by decide)) hl.1 rfl (Nat.le_of_ble_eq_true rfl) dX10_ties_31 ⟨Nat.zero_le _, Nat.zero_le _⟩) hS (fun H locs hV hS => ?_)
      refine lv_if_ne (tgt := 44) hx hb dX10_ties_34 (by decide) (fun b_10 => ?_) (fun b_10 => ?_)
      · have hr := ie b_10 hr
        refine lv_aload_n hx hb dX10_ties_44 rfl (lv_at hl 0 rfl) ?_
        refine lv_iload_n hx hb dX10_ties_45 rfl (lv_at hl 1 rfl) ?_
        refine lv_iload_n hx hb dX10_ties_46 rfl (lv_at hl 2 rfl) ?_
        obtain ⟨q11, e11, hr⟩ := ob hr
        refine cal_i (run_V (As := [.int x1, .int x2]) (rest := []) C hV hS (c_X10_kind l G b0 V x1 x2 q11 e11) (rcv hK hV (kd_lt z_208 (by decide)) (cel_20 z_208) rfl) q_1499 q_1501 q_97 q_151 q_1502 dk_X10_kind (rm_ok (by decide) (by decide)) hl.1 rfl (Nat.le_of_ble_eq_true rfl) dX10_ties_47 ⟨Nat.zero_le _, Nat.zero_le _⟩) hS (fun H locs hV hS => ?_)
        refine lv_istore (lv' := [(4, .int q11), (0, .ref (b0 + 208)), (1, .int x1), (2, .int x2), (3, .int x3)]) hx hb dX10_ties_50 hl (by decide) rfl (fun ls hl => ?_)
        refine lv_iload hx hb dX10_ties_52 (lv_at hl 0 rfl) ?_
        refine lv_iload_n hx hb dX10_ties_54 rfl (lv_at hl 4 rfl) ?_
        refine lv_icmp_ne (tgt := 65) hx hb dX10_ties_55 (by decide) (fun b_12 => ?_) (fun b_12 => ?_)
        · have hr := ie b_12 hr
          refine lv_aload_n hx hb dX10_ties_65 rfl (lv_at hl 1 rfl) ?_
          refine lv_iload_n hx hb dX10_ties_66 rfl (lv_at hl 2 rfl) ?_
          refine lv_iconst (v := 0) hx hb dX10_ties_67 (by decide) ?_
          refine lv_iload_n hx hb dX10_ties_68 rfl (lv_at hl 3 rfl) ?_
          refine lv_iload_n hx hb dX10_ties_69 rfl (lv_at hl 4 rfl) ?_
          refine lv_iconst (v := 1) hx hb dX10_ties_70 (by decide) ?_
          refine lv_iand hx hb dX10_ties_71 ?_
          refine lv_iconst (v := 1) hx hb dX10_ties_72 (by decide) ?_
          refine lv_icmp_ne (tgt := 80) hx hb dX10_ties_73 (by decide) (fun b_13 => ?_) (fun b_13 => ?_)
          · have hr := ie b_13 hr
            refine lv_iconst (v := 0) hx hb dX10_ties_80 (by decide) ?_
            exact K_81 _ x1 x2 x3 q11 0 x2 0 x1 hr _ _ ls hV hS (lv_sub hl [1, 2, 3, 4, 0] rfl)
          · have hr := it b_13 hr
            refine lv_iconst (v := 1) hx hb dX10_ties_76 (by decide) ?_
            refine lv_goto (tgt := 81) hx hb dX10_ties_77 (by decide) ?_
            exact K_81 _ x1 x2 x3 q11 1 x2 0 x1 hr _ _ ls hV hS (lv_sub hl [1, 2, 3, 4, 0] rfl)
        · have hr := it b_12 hr
          refine lv_aload_n hx hb dX10_ties_58 rfl (lv_at hl 1 rfl) ?_
          refine lv_iconst (v := 4) hx hb dX10_ties_59 (by decide) ?_
          refine lv_iload_n hx hb dX10_ties_60 rfl (lv_at hl 4 rfl) ?_
          obtain ⟨q14, e14, hr⟩ := ob hr
          refine cal_i (run_V (As := [.int 4, .int x3]) (rest := []) C hV hS (c_X10_refused l G b0 V 4 x3 q14 e14) (rcv hK hV (kd_lt z_208 (by decide)) (cel_20 z_208) rfl) q_1492 q_1494 q_96 q_151 q_1495 dk_X10_refused (rm_ok (by decide) (by decide)) hl.1 rfl (Nat.le_of_ble_eq_true rfl) dX10_ties_61 ⟨Nat.zero_le _, Nat.zero_le _⟩) hS (fun H locs hV hS => ?_)
          rw [← Option.some.inj hr]
          exact fin_i C hV hS rfl dX10_ties_64
      · have hr := it b_10 hr
        refine lv_aload_n hx hb dX10_ties_37 rfl (lv_at hl 0 rfl) ?_
        refine lv_iconst (v := 3) hx hb dX10_ties_38 (by decide) ?_
        refine lv_iload_n hx hb dX10_ties_39 rfl (lv_at hl 3 rfl) ?_
        obtain ⟨q15, e15, hr⟩ := ob hr
        refine cal_i (run_V (As := [.int 3, .int x3]) (rest := []) C hV hS (c_X10_refused l G b0 V 3 x3 q15 e15) (rcv hK hV (kd_lt z_208 (by decide)) (cel_20 z_208) rfl) q_1492 q_1494 q_96 q_151 q_1495 dk_X10_refused (rm_ok (by decide) (by decide)) hl.1 rfl (Nat.le_of_ble_eq_true rfl) dX10_ties_40 ⟨Nat.zero_le _, Nat.zero_le _⟩) hS (fun H locs hV hS => ?_)
        rw [← Option.some.inj hr]
        exact fin_i C hV hS rfl dX10_ties_43
    · have hr := it b_8 hr
      refine lv_aload_n hx hb dX10_ties_21 rfl (lv_at hl 0 rfl) ?_
      refine lv_iconst (v := 2) hx hb dX10_ties_22 (by decide) ?_
      refine lv_iload_n hx hb dX10_ties_23 rfl (lv_at hl 2 rfl) ?_
      obtain ⟨q16, e16, hr⟩ := ob hr
      refine cal_i (run_V (As := [.int 2, .int x2]) (rest := []) C hV hS (c_X10_refused l G b0 V 2 x2 q16 e16) (rcv hK hV (kd_lt z_208 (by decide)) (cel_20 z_208) rfl) q_1492 q_1494 q_96 q_151 q_1495 dk_X10_refused (rm_ok (by decide) (by decide)) hl.1 rfl (Nat.le_of_ble_eq_true rfl) dX10_ties_24 ⟨Nat.zero_le _, Nat.zero_le _⟩) hS (fun H locs hV hS => ?_)
      rw [← Option.some.inj hr]
      exact fin_i C hV hS rfl dX10_ties_27
  · have hr := it b_6 hr
    refine lv_aload_n hx hb dX10_ties_7 rfl (lv_at hl 0 rfl) ?_
    refine lv_iconst (v := 2) hx hb dX10_ties_8 (by decide) ?_
    refine lv_iload_n hx hb dX10_ties_9 rfl (lv_at hl 1 rfl) ?_
    obtain ⟨q17, e17, hr⟩ := ob hr
    refine cal_i (run_V (As := [.int 2, .int x1]) (rest := []) C hV hS (c_X10_refused l G b0 V 2 x1 q17 e17) (rcv hK hV (kd_lt z_208 (by decide)) (cel_20 z_208) rfl) q_1492 q_1494 q_96 q_151 q_1495 dk_X10_refused (rm_ok (by decide) (by decide)) hl.1 rfl (Nat.le_of_ble_eq_true rfl) dX10_ties_10 ⟨Nat.zero_le _, Nat.zero_le _⟩) hS (fun H locs hV hS => ?_)
    rw [← Option.some.inj hr]
    exact fin_i C hV hS rfl dX10_ties_13
set_option maxHeartbeats 4000000 in
set_option maxRecDepth 100000 in
theorem c_X10_stringFor (l : Launch) (G : LG) (b0 : Nat) (V : St) (x0 : Int32) (x1 : Int32) (res : Int32) (hr : f_X10_stringFor x0 x1 = some res) : Met l yX10_stringFor (wy yX10_stringFor cX10_stringFor 4 (some .int)) (rm 0) (va_Pc [.int x0, .int x1] (Iv G b0 V)) (QI G b0 res V) 0 0 (Ab b0) := by
  refine mk_m (by decide +kernel) (Nat.le_of_ble_eq_true rfl) ?_
  intro p e s m below meth c C hV hS ls hl
  obtain ⟨args, hargs⟩ : ∃ z, z = ([.int x0, .int x1] : List Value).toArray := ⟨_, rfl⟩
  rw [← hargs] at C ⊢
  obtain ⟨hx, hb, hrt, hml, hown, hts, hlocks, hK, hSv⟩ := id C
  have hl : lv_has ls 4 [(0, .int x0), (1, .int x1)] := hl
  have K_40 : ∀ (x2 : Int32) (x3 : Int32), f_X10_stringFor_b40 x2 x3 = some res → ∀ (H : Heap) (locs : List Loc) (ls : Array Slot), Hd G b0 V H → va_S (Ab b0) s.heap H locs → lv_has ls 4 [(2, .int x2), (3, .int x3)] → W p l e (rm 0) s m args below meth c H locs 0 0 (MQ below (QI G b0 res V) args s 0 0 (Ab b0)) (F0 m 40 ls []) := by
    intro x2 x3 hr H locs ls hV hS hl
    unfold f_X10_stringFor_b40 at hr
    refine lv_iload_n hx hb dX10_stringFor_40 rfl (lv_at hl 1 rfl) ?_
    refine lv_iload_n hx hb dX10_stringFor_41 rfl (lv_at hl 0 rfl) ?_
    refine lv_isub hx hb dX10_stringFor_42 ?_
    refine lv_bipush (v := 6) hx hb dX10_stringFor_43 (by decide) ?_
    refine lv_icmp_ne (tgt := 52) hx hb dX10_stringFor_45 (by decide) (fun b_1 => ?_) (fun b_1 => ?_)
    · have hr := ie b_1 hr
      refine lv_iconst (v := (-1)) hx hb dX10_stringFor_52 (by decide) ?_
      exact fin_i C hV hS (Option.some.inj hr) dX10_stringFor_53
    · have hr := it b_1 hr
      refine lv_iconst (v := 3) hx hb dX10_stringFor_48 (by decide) ?_
      refine lv_goto (tgt := 53) hx hb dX10_stringFor_49 (by decide) ?_
      exact fin_i C hV hS (Option.some.inj hr) dX10_stringFor_53
  have K_21 : ∀ (x2 : Int32) (y0 : Int32), f_X10_stringFor_b21 x2 y0 = some res → ∀ (H : Heap) (locs : List Loc) (ls : Array Slot), Hd G b0 V H → va_S (Ab b0) s.heap H locs → lv_has ls 4 [(2, .int x2)] → W p l e (rm 0) s m args below meth c H locs 0 0 (MQ below (QI G b0 res V) args s 0 0 (Ab b0)) (F0 m 21 ls [.int y0]) := by
    intro x2 y0 hr H locs ls hV hS hl
    unfold f_X10_stringFor_b21 at hr
    refine lv_istore_n (lv' := [(3, .int y0), (2, .int x2)]) hx hb dX10_stringFor_21 rfl hl (by decide) rfl (fun ls hl => ?_)
    refine lv_iload_n hx hb dX10_stringFor_22 rfl (lv_at hl 0 rfl) ?_
    refine lv_iload_n hx hb dX10_stringFor_23 rfl (lv_at hl 1 rfl) ?_
    refine lv_isub hx hb dX10_stringFor_24 ?_
    refine lv_iconst (v := 1) hx hb dX10_stringFor_25 (by decide) ?_
    refine lv_icmp_ne (tgt := 40) hx hb dX10_stringFor_26 (by decide) (fun b_2 => ?_) (fun b_2 => ?_)
    · have hr := ie b_2 hr
      exact K_40 x2 y0 hr _ _ ls hV hS (lv_sub hl [1, 0] rfl)
    · have hr := it b_2 hr
      refine lv_iload_n hx hb dX10_stringFor_29 rfl (lv_at hl 0 rfl) ?_
      refine lv_bipush (v := 6) hx hb dX10_stringFor_30 (by decide) ?_
      refine lv_irem hx hb dX10_stringFor_32 (by decide) ?_
      refine lv_if_eq (tgt := 40) hx hb dX10_stringFor_33 (by decide) (fun b_3 => ?_) (fun b_3 => ?_)
      · have hr := it b_3 hr
        exact K_40 x2 y0 hr _ _ ls hV hS (lv_sub hl [1, 0] rfl)
      · have hr := ie b_3 hr
        refine lv_iconst (v := 2) hx hb dX10_stringFor_36 (by decide) ?_
        refine lv_goto (tgt := 53) hx hb dX10_stringFor_37 (by decide) ?_
        exact fin_i C hV hS (Option.some.inj hr) dX10_stringFor_53
  have K_10 : ∀ (x0 : Int32) (x1 : Int32) (y0 : Int32), f_X10_stringFor_b10 x0 x1 y0 = some res → ∀ (H : Heap) (locs : List Loc) (ls : Array Slot), Hd G b0 V H → va_S (Ab b0) s.heap H locs → lv_has ls 4 [(0, .int x0), (1, .int x1)] → W p l e (rm 0) s m args below meth c H locs 0 0 (MQ below (QI G b0 res V) args s 0 0 (Ab b0)) (F0 m 10 ls [.int y0]) := by
    intro x0 x1 y0 hr H locs ls hV hS hl
    unfold f_X10_stringFor_b10 at hr
    refine lv_istore_n (lv' := [(2, .int y0), (0, .int x0), (1, .int x1)]) hx hb dX10_stringFor_10 rfl hl (by decide) rfl (fun ls hl => ?_)
    refine lv_iload_n hx hb dX10_stringFor_11 rfl (lv_at hl 1 rfl) ?_
    refine lv_iload_n hx hb dX10_stringFor_12 rfl (lv_at hl 2 rfl) ?_
    refine lv_icmp_ge (tgt := 20) hx hb dX10_stringFor_13 (by decide) (fun b_4 => ?_) (fun b_4 => ?_)
    · have hr := it b_4 hr
      refine lv_iload_n hx hb dX10_stringFor_20 rfl (lv_at hl 1 rfl) ?_
      exact K_21 y0 x0 hr _ _ ls hV hS (lv_sub hl [0] rfl)
    · have hr := ie b_4 hr
      refine lv_iload_n hx hb dX10_stringFor_16 rfl (lv_at hl 2 rfl) ?_
      refine lv_goto (tgt := 21) hx hb dX10_stringFor_17 (by decide) ?_
      exact K_21 y0 x1 hr _ _ ls hV hS (lv_sub hl [0] rfl)
  unfold f_X10_stringFor at hr
  refine lv_iload_n hx hb dX10_stringFor_0 rfl (lv_at hl 0 rfl) ?_
  refine lv_iload_n hx hb dX10_stringFor_1 rfl (lv_at hl 1 rfl) ?_
  refine lv_icmp_ge (tgt := 9) hx hb dX10_stringFor_2 (by decide) (fun b_5 => ?_) (fun b_5 => ?_)
  · have hr := it b_5 hr
    refine lv_iload_n hx hb dX10_stringFor_9 rfl (lv_at hl 1 rfl) ?_
    exact K_10 x0 x1 x1 hr _ _ ls hV hS (lv_sub hl [0, 1] rfl)
  · have hr := ie b_5 hr
    refine lv_iload_n hx hb dX10_stringFor_5 rfl (lv_at hl 0 rfl) ?_
    refine lv_goto (tgt := 10) hx hb dX10_stringFor_6 (by decide) ?_
    exact K_10 x0 x1 x0 hr _ _ ls hV hS (lv_sub hl [0, 1] rfl)
set_option maxHeartbeats 4000000 in
set_option maxRecDepth 100000 in
theorem c_X10_tears (l : Launch) (G : LG) (b0 : Nat) (V : St) (x1 : Int32) (x2 : Int32) (x3 : Int32) (res : Int32 × St) (hr : f_X10_tears V x1 x2 x3 = some res) : Met l yX10_tears (wy yX10_tears cX10_tears 6 (some .int)) (rm 3) (va_Pc [.ref (b0 + 208), .int x1, .int x2, .int x3] (Iv G b0 V)) (QI G b0 res.1 res.2) 0 0 (Ab b0) := by
  refine mk_m (by decide +kernel) (Nat.le_of_ble_eq_true rfl) ?_
  intro p e s m below meth c C hV hS ls hl
  obtain ⟨args, hargs⟩ : ∃ z, z = ([.ref (b0 + 208), .int x1, .int x2, .int x3] : List Value).toArray := ⟨_, rfl⟩
  rw [← hargs] at C ⊢
  obtain ⟨hx, hb, hrt, hml, hown, hts, hlocks, hK, hSv⟩ := id C
  have hl : lv_has ls 6 [(0, .ref (b0 + 208)), (1, .int x1), (2, .int x2), (3, .int x3)] := hl
  have K_72 : ∀ (V : St) (x1 : Int32) (x2 : Int32) (x3 : Int32) (x4 : Int32) (y0 : Int32), f_X10_tears_b72 V x1 x2 x3 x4 y0 = some res → ∀ (H : Heap) (locs : List Loc) (ls : Array Slot), Hd G b0 V H → va_S (Ab b0) s.heap H locs → lv_has ls 6 [(0, .ref (b0 + 208)), (1, .int x1), (2, .int x2), (3, .int x3), (4, .int x4)] → W p l e (rm 3) s m args below meth c H locs 0 0 (MQ below (QI G b0 res.1 res.2) args s 0 0 (Ab b0)) (F0 m 72 ls [.int y0]) := by
    intro V x1 x2 x3 x4 y0 hr H locs ls hV hS hl
    unfold f_X10_tears_b72 at hr
    refine lv_istore (lv' := [(5, .int y0), (0, .ref (b0 + 208)), (1, .int x1), (2, .int x2), (3, .int x3), (4, .int x4)]) hx hb dX10_tears_72 hl (by decide) rfl (fun ls hl => ?_)
    refine lv_aload_n hx hb dX10_tears_74 rfl (lv_at hl 1 rfl) ?_
    refine lv_iload_n hx hb dX10_tears_75 rfl (lv_at hl 2 rfl) ?_
    refine lv_iload hx hb dX10_tears_76 (lv_at hl 5 rfl) ?_
    obtain ⟨q1, e1, hr⟩ := ob hr
    refine cal_i (run_V (As := [.int x1, .int x4]) (rest := []) C hV hS (c_X10_of l G b0 V x1 x4 q1 e1) (rcv hK hV (kd_lt z_208 (by decide)) (cel_20 z_208) rfl) q_1503 q_1505 q_98 q_151 q_1506 dk_X10_of (rm_ok (by decide) (by decide)) hl.1 rfl (Nat.le_of_ble_eq_true rfl) dX10_tears_78 ⟨Nat.zero_le _, Nat.zero_le _⟩) hS (fun H locs hV hS => ?_)
    refine lv_iload hx hb dX10_tears_81 (lv_at hl 0 rfl) ?_
    refine lv_ishr hx hb dX10_tears_83 ?_
    refine lv_iconst (v := 1) hx hb dX10_tears_84 (by decide) ?_
    refine lv_iand hx hb dX10_tears_85 ?_
    refine lv_iconst (v := 1) hx hb dX10_tears_86 (by decide) ?_
    refine lv_icmp_ne (tgt := 102) hx hb dX10_tears_87 (by decide) (fun b_2 => ?_) (fun b_2 => ?_)
    · have hr := ie b_2 hr
      refine lv_aload_n hx hb dX10_tears_102 rfl (lv_at hl 1 rfl) ?_
      refine lv_iload_n hx hb dX10_tears_103 rfl (lv_at hl 2 rfl) ?_
      refine lv_iload hx hb dX10_tears_104 (lv_at hl 5 rfl) ?_
      refine lv_iload hx hb dX10_tears_106 (lv_at hl 0 rfl) ?_
      refine lv_iconst (v := 1) hx hb dX10_tears_108 (by decide) ?_
      obtain ⟨q3, e3, hr⟩ := ob hr
      refine cal_v (run_V (As := [.int x1, .int x4, .int y0, .int 1]) (rest := []) C hV hS (c_X10_sets l G b0 V x1 x4 y0 1 q3 e3) (rcv hK hV (kd_lt z_208 (by decide)) (cel_20 z_208) rfl) q_1507 q_1509 q_99 q_151 q_1510 dk_X10_sets (rm_ok (by decide) (by decide)) hl.1 rfl (Nat.le_of_ble_eq_true rfl) dX10_tears_109 ⟨Nat.zero_le _, Nat.zero_le _⟩) hS (fun H locs hV hS => ?_)
      refine lv_aload_n hx hb dX10_tears_112 rfl (lv_at hl 1 rfl) ?_
      refine g_X10_1 C hV q_1392 dX10_tears_113 ?_
      refine lv_iconst (v := 3) hx hb dX10_tears_116 (by decide) ?_
      refine lv_dup2_11 hx hb dX10_tears_117 rfl rfl ?_
      refine a_21 (k := 209) (i := 3) (j := 3) C hV z_209 (by decide) dX10_tears_118 ?_
      refine lv_iconst (v := 1) hx hb dX10_tears_119 (by decide) ?_
      refine lv_iadd hx hb dX10_tears_120 ?_
      refine s_21 (k := 209) (i := 3) (j := 3) (x := ((q3 209 3) + 1)) C hV hS z_209 (by decide) dX10_tears_121 (fun H locs hV hS => ?_)
      refine lv_aload_n hx hb dX10_tears_122 rfl (lv_at hl 1 rfl) ?_
      refine lv_iload_n hx hb dX10_tears_123 rfl (lv_at hl 2 rfl) ?_
      obtain ⟨q4, e4, hr⟩ := ob hr
      refine cal_v (run_V (As := [.int x1]) (rest := []) C hV hS (c_X10_looksAt l G b0 (up q3 209 3 ((q3 209 3) + 1)) x1 q4 e4) (rcv hK hV (kd_lt z_208 (by decide)) (cel_20 z_208) rfl) q_1538 q_1540 q_105 q_151 q_1541 dk_X10_looksAt (rm_ok (by decide) (by decide)) hl.1 rfl (Nat.le_of_ble_eq_true rfl) dX10_tears_124 ⟨Nat.zero_le _, Nat.zero_le _⟩) hS (fun H locs hV hS => ?_)
      refine lv_aload_n hx hb dX10_tears_127 rfl (lv_at hl 1 rfl) ?_
      refine lv_aload_n hx hb dX10_tears_128 rfl (lv_at hl 1 rfl) ?_
      refine lv_aload_n hx hb dX10_tears_129 rfl (lv_at hl 1 rfl) ?_
      refine g_X10_19 C hV q_1410 dX10_tears_130 ?_
      obtain ⟨q5, e5, hr⟩ := ob hr
      refine cal_i (run_V (As := [.int (q4 208 19)]) (rest := [.ref (b0 + 208)]) C hV hS (c_X10_partsOf l G b0 q4 (q4 208 19) q5 e5) (rcv hK hV (kd_lt z_208 (by decide)) (cel_20 z_208) rfl) q_1544 q_1546 q_106 q_151 q_1547 dk_X10_partsOf (rm_ok (by decide) (by decide)) hl.1 rfl (Nat.le_of_ble_eq_true rfl) dX10_tears_133 ⟨Nat.zero_le _, Nat.zero_le _⟩) hS (fun H locs hV hS => ?_)
      obtain ⟨q6, e6, hr⟩ := ob hr
      refine cal_i (run_V (As := [.int q5]) (rest := []) C hV hS (c_X10_done l G b0 q4 q5 q6 e6) (rcv hK hV (kd_lt z_208 (by decide)) (cel_20 z_208) rfl) q_1511 q_1513 q_100 q_151 q_1514 dk_X10_done (rm_ok (by decide) (by decide)) hl.1 rfl (Nat.le_of_ble_eq_true rfl) dX10_tears_136 ⟨Nat.zero_le _, Nat.zero_le _⟩) hS (fun H locs hV hS => ?_)
      rw [← Option.some.inj hr]
      exact fin_i C hV hS rfl dX10_tears_139
    · have hr := it b_2 hr
      refine lv_aload_n hx hb dX10_tears_90 rfl (lv_at hl 1 rfl) ?_
      refine lv_iconst (v := 4) hx hb dX10_tears_91 (by decide) ?_
      refine lv_iload_n hx hb dX10_tears_92 rfl (lv_at hl 3 rfl) ?_
      refine lv_iload_n hx hb dX10_tears_93 rfl (lv_at hl 4 rfl) ?_
      refine lv_iadd hx hb dX10_tears_94 ?_
      refine lv_iload hx hb dX10_tears_95 (lv_at hl 0 rfl) ?_
      refine lv_isub hx hb dX10_tears_97 ?_
      obtain ⟨q7, e7, hr⟩ := ob hr
      refine cal_i (run_V (As := [.int 4, .int ((x2 + x3) - y0)]) (rest := []) C hV hS (c_X10_refused l G b0 V 4 ((x2 + x3) - y0) q7 e7) (rcv hK hV (kd_lt z_208 (by decide)) (cel_20 z_208) rfl) q_1492 q_1494 q_96 q_151 q_1495 dk_X10_refused (rm_ok (by decide) (by decide)) hl.1 rfl (Nat.le_of_ble_eq_true rfl) dX10_tears_98 ⟨Nat.zero_le _, Nat.zero_le _⟩) hS (fun H locs hV hS => ?_)
      rw [← Option.some.inj hr]
      exact fin_i C hV hS rfl dX10_tears_101
  unfold f_X10_tears at hr
  refine lv_iload_n hx hb dX10_tears_0 rfl (lv_at hl 1 rfl) ?_
  obtain ⟨q8, e8, hr⟩ := ob hr
  refine cal_i (run_S (As := [.int x1]) (rest := []) C hV hS (c_X10_isNet l G b0 V x1 q8 e8) q_1486 q_1487 q_151 q_1488 dk_X10_isNet (rm_ok (by decide) (by decide)) hl.1 rfl (Nat.le_of_ble_eq_true rfl) dX10_tears_1 ⟨Nat.zero_le _, Nat.zero_le _⟩) hS (fun H locs hV hS => ?_)
  refine lv_if_ne (tgt := 14) hx hb dX10_tears_4 (by decide) (fun b_9 => ?_) (fun b_9 => ?_)
  · have hr := ie b_9 hr
    refine lv_iload_n hx hb dX10_tears_14 rfl (lv_at hl 2 rfl) ?_
    obtain ⟨q10, e10, hr⟩ := ob hr
    refine cal_i (run_S (As := [.int x2]) (rest := []) C hV hS (c_X10_isPlace l G b0 V x2 q10 e10) q_1496 q_1497 q_151 q_1498 dk_X10_isPlace (rm_ok (by decide) (by decide)) hl.1 rfl (Nat.le_of_ble_eq_true rfl) dX10_tears_15 ⟨Nat.zero_le _, Nat.zero_le _⟩) hS (fun H locs hV hS => ?_)
    refine lv_if_ne (tgt := 28) hx hb dX10_tears_18 (by decide) (fun b_11 => ?_) (fun b_11 => ?_)
    · have hr := ie b_11 hr
      refine lv_iload_n hx hb dX10_tears_28 rfl (lv_at hl 3 rfl) ?_
      obtain ⟨q12, e12, hr⟩ := ob hr
      refine cal_i (run_S (As := [.int x3]) (rest := []) C hV hS (c_X10_isPlace l G b0 V x3 q12 e12) q_1496 q_1497 q_151 q_1498 dk_X10_isPlace (rm_ok (by decide) (by decide)) hl.1 rfl (Nat.le_of_ble_eq_true rfl) dX10_tears_29 ⟨Nat.zero_le _, Nat.zero_le _⟩) hS (fun H locs hV hS => ?_)
      refine lv_if_ne (tgt := 42) hx hb dX10_tears_32 (by decide) (fun b_13 => ?_) (fun b_13 => ?_)
      · have hr := ie b_13 hr
        refine lv_iload_n hx hb dX10_tears_42 rfl (lv_at hl 2 rfl) ?_
        refine lv_iload_n hx hb dX10_tears_43 rfl (lv_at hl 3 rfl) ?_
        obtain ⟨q14, e14, hr⟩ := ob hr
        refine cal_i (run_S (As := [.int x2, .int x3]) (rest := []) C hV hS (c_X10_stringFor l G b0 V x2 x3 q14 e14) q_1535 q_1536 q_151 q_1537 dk_X10_stringFor (rm_ok (by decide) (by decide)) hl.1 rfl (Nat.le_of_ble_eq_true rfl) dX10_tears_44 ⟨Nat.zero_le _, Nat.zero_le _⟩) hS (fun H locs hV hS => ?_)
        refine lv_istore (lv' := [(4, .int q14), (0, .ref (b0 + 208)), (1, .int x1), (2, .int x2), (3, .int x3)]) hx hb dX10_tears_47 hl (by decide) rfl (fun ls hl => ?_)
        refine lv_iload hx hb dX10_tears_49 (lv_at hl 0 rfl) ?_
        refine lv_iconst (v := (-1)) hx hb dX10_tears_51 (by decide) ?_
        refine lv_icmp_ne (tgt := 62) hx hb dX10_tears_52 (by decide) (fun b_15 => ?_) (fun b_15 => ?_)
        · have hr := ie b_15 hr
          refine lv_iload_n hx hb dX10_tears_62 rfl (lv_at hl 3 rfl) ?_
          refine lv_iload_n hx hb dX10_tears_63 rfl (lv_at hl 4 rfl) ?_
          refine lv_icmp_ge (tgt := 71) hx hb dX10_tears_64 (by decide) (fun b_16 => ?_) (fun b_16 => ?_)
          · have hr := it b_16 hr
            refine lv_iload_n hx hb dX10_tears_71 rfl (lv_at hl 4 rfl) ?_
            exact K_72 _ x1 x2 x3 q14 x3 hr _ _ ls hV hS (lv_sub hl [1, 2, 3, 4, 0] rfl)
          · have hr := ie b_16 hr
            refine lv_iload_n hx hb dX10_tears_67 rfl (lv_at hl 3 rfl) ?_
            refine lv_goto (tgt := 72) hx hb dX10_tears_68 (by decide) ?_
            exact K_72 _ x1 x2 x3 q14 x2 hr _ _ ls hV hS (lv_sub hl [1, 2, 3, 4, 0] rfl)
        · have hr := it b_15 hr
          refine lv_aload_n hx hb dX10_tears_55 rfl (lv_at hl 1 rfl) ?_
          refine lv_iconst (v := 5) hx hb dX10_tears_56 (by decide) ?_
          refine lv_iload_n hx hb dX10_tears_57 rfl (lv_at hl 4 rfl) ?_
          obtain ⟨q17, e17, hr⟩ := ob hr
          refine cal_i (run_V (As := [.int 5, .int x3]) (rest := []) C hV hS (c_X10_refused l G b0 V 5 x3 q17 e17) (rcv hK hV (kd_lt z_208 (by decide)) (cel_20 z_208) rfl) q_1492 q_1494 q_96 q_151 q_1495 dk_X10_refused (rm_ok (by decide) (by decide)) hl.1 rfl (Nat.le_of_ble_eq_true rfl) dX10_tears_58 ⟨Nat.zero_le _, Nat.zero_le _⟩) hS (fun H locs hV hS => ?_)
          rw [← Option.some.inj hr]
          exact fin_i C hV hS rfl dX10_tears_61
      · have hr := it b_13 hr
        refine lv_aload_n hx hb dX10_tears_35 rfl (lv_at hl 0 rfl) ?_
        refine lv_iconst (v := 2) hx hb dX10_tears_36 (by decide) ?_
        refine lv_iload_n hx hb dX10_tears_37 rfl (lv_at hl 3 rfl) ?_
        obtain ⟨q18, e18, hr⟩ := ob hr
        refine cal_i (run_V (As := [.int 2, .int x3]) (rest := []) C hV hS (c_X10_refused l G b0 V 2 x3 q18 e18) (rcv hK hV (kd_lt z_208 (by decide)) (cel_20 z_208) rfl) q_1492 q_1494 q_96 q_151 q_1495 dk_X10_refused (rm_ok (by decide) (by decide)) hl.1 rfl (Nat.le_of_ble_eq_true rfl) dX10_tears_38 ⟨Nat.zero_le _, Nat.zero_le _⟩) hS (fun H locs hV hS => ?_)
        rw [← Option.some.inj hr]
        exact fin_i C hV hS rfl dX10_tears_41
    · have hr := it b_11 hr
      refine lv_aload_n hx hb dX10_tears_21 rfl (lv_at hl 0 rfl) ?_
      refine lv_iconst (v := 2) hx hb dX10_tears_22 (by decide) ?_
      refine lv_iload_n hx hb dX10_tears_23 rfl (lv_at hl 2 rfl) ?_
      obtain ⟨q19, e19, hr⟩ := ob hr
      refine cal_i (run_V (As := [.int 2, .int x2]) (rest := []) C hV hS (c_X10_refused l G b0 V 2 x2 q19 e19) (rcv hK hV (kd_lt z_208 (by decide)) (cel_20 z_208) rfl) q_1492 q_1494 q_96 q_151 q_1495 dk_X10_refused (rm_ok (by decide) (by decide)) hl.1 rfl (Nat.le_of_ble_eq_true rfl) dX10_tears_24 ⟨Nat.zero_le _, Nat.zero_le _⟩) hS (fun H locs hV hS => ?_)
      rw [← Option.some.inj hr]
      exact fin_i C hV hS rfl dX10_tears_27
  · have hr := it b_9 hr
    refine lv_aload_n hx hb dX10_tears_7 rfl (lv_at hl 0 rfl) ?_
    refine lv_iconst (v := 2) hx hb dX10_tears_8 (by decide) ?_
    refine lv_iload_n hx hb dX10_tears_9 rfl (lv_at hl 1 rfl) ?_
    obtain ⟨q20, e20, hr⟩ := ob hr
    refine cal_i (run_V (As := [.int 2, .int x1]) (rest := []) C hV hS (c_X10_refused l G b0 V 2 x1 q20 e20) (rcv hK hV (kd_lt z_208 (by decide)) (cel_20 z_208) rfl) q_1492 q_1494 q_96 q_151 q_1495 dk_X10_refused (rm_ok (by decide) (by decide)) hl.1 rfl (Nat.le_of_ble_eq_true rfl) dX10_tears_10 ⟨Nat.zero_le _, Nat.zero_le _⟩) hS (fun H locs hV hS => ?_)
    rw [← Option.some.inj hr]
    exact fin_i C hV hS rfl dX10_tears_13
