set_option maxHeartbeats 4000000 in
set_option maxRecDepth 100000 in
theorem c_X3_isTornBetween (l : Launch) (G : LG) (b0 : Nat) (V : St) (k0 : Nat) (hk0 : kd k0 = 5) (x1 : Int32) (x2 : Int32) (res : Int32) (hr : f_X3_isTornBetween V k0 x1 x2 = some res) : Met l yX3_isTornBetween (wy yX3_isTornBetween cX3_isTornBetween 3 (some .boolean)) (rm 2) (va_Pc [.ref (b0 + k0), .int x1, .int x2] (Iv G b0 V)) (QI G b0 res V) 0 0 (Ab b0) := by
  refine mk_m (by decide +kernel) (Nat.le_of_ble_eq_true rfl) ?_
  intro p e s m below meth c C hV hS ls hl
  obtain ⟨args, hargs⟩ : ∃ z, z = ([.ref (b0 + k0), .int x1, .int x2] : List Value).toArray := ⟨_, rfl⟩
  rw [← hargs] at C ⊢
  obtain ⟨hx, hb, hrt, hml, hown, hts, hlocks, hK, hSv⟩ := id C
  have hl : lv_has ls 3 [(0, .ref (b0 + k0)), (1, .int x1), (2, .int x2)] := hl
  have K_19 : ∀ (x1 : Int32) (x2 : Int32) (y0 : Int32), f_X3_isTornBetween_b19 V x1 x2 y0 = some res → ∀ (H : Heap) (locs : List Loc) (ls : Array Slot), Hd G b0 V H → va_S (Ab b0) s.heap H locs → lv_has ls 3 [(1, .int x1), (2, .int x2)] → W p l e (rm 2) s m args below meth c H locs 0 0 (MQ below (QI G b0 res V) args s 0 0 (Ab b0)) (F0 m 19 ls [.int y0]) := by
    intro x1 x2 y0 hr H locs ls hV hS hl
    unfold f_X3_isTornBetween_b19 at hr
    refine lv_iload_n hx hb dX3_isTornBetween_19 rfl (lv_at hl 0 rfl) ?_
    refine lv_iload_n hx hb dX3_isTornBetween_20 rfl (lv_at hl 1 rfl) ?_
    refine r_min (D := 1) C q_717 q_703 q_112 q_704 hl.1 ⟨rfl, rfl⟩ (Nat.le_of_ble_eq_true rfl) ⟨Nat.zero_le _, Nat.zero_le _⟩ dX3_isTornBetween_21 ?_
    refine W.eq (g2 := F0 m 24 ls [.int (imin x1 x2), .int y0]) rfl ?_
    obtain ⟨q1, e1, hr⟩ := ob hr
    refine cal_i (run_SN (As := [.int y0, .int (imin x1 x2)]) (rest := []) C hV hS (c_X9_isIn l G b0 V y0 (imin x1 x2) q1 e1) q_623 q_624 q_93 q_625 dk_X9_isIn (rm_ok (by decide) (by decide)) hl.1 rfl (Nat.le_of_ble_eq_true rfl) dX3_isTornBetween_24 ⟨Nat.zero_le _, Nat.zero_le _⟩) hS (fun H locs hV hS => ?_)
    obtain ⟨q2, e2, hr⟩ := ob hr
    exact fin_z C hV hS (nr_in e2).2 (Option.some.inj hr) dX3_isTornBetween_27
  unfold f_X3_isTornBetween at hr
  refine lv_iload_n hx hb dX3_isTornBetween_0 rfl (lv_at hl 1 rfl) ?_
  refine lv_iload_n hx hb dX3_isTornBetween_1 rfl (lv_at hl 2 rfl) ?_
  obtain ⟨q3, e3, hr⟩ := ob hr
  refine cal_i (run_SN (As := [.int x1, .int x2]) (rest := []) C hV hS (c_X9_isAcross l G b0 V x1 x2 q3 e3) q_714 q_715 q_93 q_716 dk_X9_isAcross (rm_ok (by decide) (by decide)) hl.1 rfl (Nat.le_of_ble_eq_true rfl) dX3_isTornBetween_2 ⟨Nat.zero_le _, Nat.zero_le _⟩) hS (fun H locs hV hS => ?_)
  refine lv_if_eq (tgt := 15) hx hb dX3_isTornBetween_5 (by decide) (fun b_4 => ?_) (fun b_4 => ?_)
  · have hr := it b_4 hr
    refine lv_aload_n hx hb dX3_isTornBetween_15 rfl (lv_at hl 0 rfl) ?_
    refine g_X3_3 (k := k0) C hV hk0 q_159 dX3_isTornBetween_16 ?_
    exact K_19 x1 x2 (V k0 3) hr _ _ ls hV hS (lv_sub hl [1, 2] rfl)
  · have hr := ie b_4 hr
    refine lv_aload_n hx hb dX3_isTornBetween_8 rfl (lv_at hl 0 rfl) ?_
    refine g_X3_2 (k := k0) C hV hk0 q_158 dX3_isTornBetween_9 ?_
    refine lv_goto (tgt := 19) hx hb dX3_isTornBetween_12 (by decide) ?_
    exact K_19 x1 x2 (V k0 2) hr _ _ ls hV hS (lv_sub hl [1, 2] rfl)
set_option maxHeartbeats 4000000 in
set_option maxRecDepth 100000 in
theorem c_X3_putString (l : Launch) (G : LG) (b0 : Nat) (V : St) (k0 : Nat) (hk0 : kd k0 = 5) (x1 : Int32) (x2 : Int32) (x3 : Int32) (res : St) (hr : f_X3_putString V k0 x1 x2 x3 = some res) : Met l yX3_putString (wy yX3_putString cX3_putString 5 none) (rm 2) (va_Pc [.ref (b0 + k0), .int x1, .int x2, .int x3] (Iv G b0 V)) (QV G b0 res) 0 0 (Ab b0) := by
  refine mk_m (by decide +kernel) (Nat.le_of_ble_eq_true rfl) ?_
  intro p e s m below meth c C hV hS ls hl
  obtain ⟨args, hargs⟩ : ∃ z, z = ([.ref (b0 + k0), .int x1, .int x2, .int x3] : List Value).toArray := ⟨_, rfl⟩
  rw [← hargs] at C ⊢
  obtain ⟨hx, hb, hrt, hml, hown, hts, hlocks, hK, hSv⟩ := id C
  have hl : lv_has ls 5 [(0, .ref (b0 + k0)), (1, .int x1), (2, .int x2), (3, .int x3)] := hl
  unfold f_X3_putString at hr
  refine lv_iload_n hx hb dX3_putString_0 rfl (lv_at hl 1 rfl) ?_
  refine lv_iload_n hx hb dX3_putString_1 rfl (lv_at hl 2 rfl) ?_
  refine r_min (D := 1) C q_717 q_703 q_112 q_704 hl.1 ⟨rfl, rfl⟩ (Nat.le_of_ble_eq_true rfl) ⟨Nat.zero_le _, Nat.zero_le _⟩ dX3_putString_2 ?_
  refine W.eq (g2 := F0 m 5 ls [.int (imin x1 x2)]) rfl ?_
  refine lv_istore (lv' := [(4, .int (imin x1 x2)), (0, .ref (b0 + k0)), (1, .int x1), (2, .int x2), (3, .int x3)]) hx hb dX3_putString_5 hl (by decide) rfl (fun ls hl => ?_)
  refine lv_iload_n hx hb dX3_putString_7 rfl (lv_at hl 2 rfl) ?_
  refine lv_iload_n hx hb dX3_putString_8 rfl (lv_at hl 3 rfl) ?_
  obtain ⟨q1, e1, hr⟩ := ob hr
  refine cal_i (run_SN (As := [.int x1, .int x2]) (rest := []) C hV hS (c_X9_isAcross l G b0 V x1 x2 q1 e1) q_714 q_715 q_93 q_716 dk_X9_isAcross (rm_ok (by decide) (by decide)) hl.1 rfl (Nat.le_of_ble_eq_true rfl) dX3_putString_9 ⟨Nat.zero_le _, Nat.zero_le _⟩) hS (fun H locs hV hS => ?_)
  refine lv_if_eq (tgt := 32) hx hb dX3_putString_12 (by decide) (fun b_2 => ?_) (fun b_2 => ?_)
  · have hr := it b_2 hr
    refine lv_aload_n hx hb dX3_putString_32 rfl (lv_at hl 1 rfl) ?_
    refine lv_aload_n hx hb dX3_putString_33 rfl (lv_at hl 1 rfl) ?_
    refine g_X3_3 (k := k0) C hV hk0 q_159 dX3_putString_34 ?_
    refine lv_iload hx hb dX3_putString_37 (lv_at hl 0 rfl) ?_
    refine lv_iload_n hx hb dX3_putString_39 rfl (lv_at hl 4 rfl) ?_
    obtain ⟨q3, e3, hr⟩ := ob hr
    refine cal_i (run_SN (As := [.int (V k0 3), .int (imin x1 x2), .int x3]) (rest := [.ref (b0 + k0)]) C hV hS (c_X9_with l G b0 V (V k0 3) (imin x1 x2) x3 q3 e3) q_677 q_678 q_93 q_679 dk_X9_with (rm_ok (by decide) (by decide)) hl.1 rfl (Nat.le_of_ble_eq_true rfl) dX3_putString_40 ⟨Nat.zero_le _, Nat.zero_le _⟩) hS (fun H locs hV hS => ?_)
    refine p_X3_3 (k := k0) (x := q3) C hV hS hk0 q_159 dX3_putString_43 (fun H locs hV hS => ?_)
    exact fin_v C hV hS (Option.some.inj hr) dX3_putString_46
  · have hr := ie b_2 hr
    refine lv_aload_n hx hb dX3_putString_15 rfl (lv_at hl 1 rfl) ?_
    refine lv_aload_n hx hb dX3_putString_16 rfl (lv_at hl 1 rfl) ?_
    refine g_X3_2 (k := k0) C hV hk0 q_158 dX3_putString_17 ?_
    refine lv_iload hx hb dX3_putString_20 (lv_at hl 0 rfl) ?_
    refine lv_iload_n hx hb dX3_putString_22 rfl (lv_at hl 4 rfl) ?_
    obtain ⟨q4, e4, hr⟩ := ob hr
    refine cal_i (run_SN (As := [.int (V k0 2), .int (imin x1 x2), .int x3]) (rest := [.ref (b0 + k0)]) C hV hS (c_X9_with l G b0 V (V k0 2) (imin x1 x2) x3 q4 e4) q_677 q_678 q_93 q_679 dk_X9_with (rm_ok (by decide) (by decide)) hl.1 rfl (Nat.le_of_ble_eq_true rfl) dX3_putString_23 ⟨Nat.zero_le _, Nat.zero_le _⟩) hS (fun H locs hV hS => ?_)
    refine p_X3_2 (k := k0) (x := q4) C hV hS hk0 q_158 dX3_putString_26 (fun H locs hV hS => ?_)
    refine lv_goto (tgt := 46) hx hb dX3_putString_29 (by decide) ?_
    exact fin_v C hV hS (Option.some.inj hr) dX3_putString_46
set_option maxHeartbeats 4000000 in
set_option maxRecDepth 100000 in
theorem c_J6_bitCount_0f7a4 (l : Launch) (G : LG) (b0 : Nat) (V : St) (x0 : Int32) (res : Int32) (hr : f_J6_bitCount_0f7a4 x0 = some res) : Met l yJ6_bitCount_0f7a4 (wy yJ6_bitCount_0f7a4 cJ6_bitCount_0f7a4 1 (some .int)) (rm 0) (va_Pc [.int x0] (Iv G b0 V)) (QI G b0 res V) 0 0 (Ab b0) := by
  refine mk_m (by decide +kernel) (Nat.le_of_ble_eq_true rfl) ?_
  intro p e s m below meth c C hV hS ls hl
  obtain ⟨args, hargs⟩ : ∃ z, z = ([.int x0] : List Value).toArray := ⟨_, rfl⟩
  rw [← hargs] at C ⊢
  obtain ⟨hx, hb, hrt, hml, hown, hts, hlocks, hK, hSv⟩ := id C
  have hl : lv_has ls 1 [(0, .int x0)] := hl
  have K_48 : ∀ (x0 : Int32), f_J6_bitCount_0f7a4_b48 x0 = some res → ∀ (H : Heap) (locs : List Loc) (ls : Array Slot), Hd G b0 V H → va_S (Ab b0) s.heap H locs → lv_has ls 1 [(0, .int x0)] → W p l e (rm 0) s m args below meth c H locs 0 0 (MQ below (QI G b0 res V) args s 0 0 (Ab b0)) (F0 m 48 ls []) := by
    intro x0 hr H locs ls hV hS hl
    unfold f_J6_bitCount_0f7a4_b48 at hr
    refine lv_iload_n hx hb dJ6_bitCount_0f7a4_48 rfl (lv_at hl 0 rfl) ?_
    refine lv_bipush (v := 63) hx hb dJ6_bitCount_0f7a4_49 (by decide) ?_
    refine lv_iand hx hb dJ6_bitCount_0f7a4_51 ?_
    exact fin_i C hV hS (Option.some.inj hr) dJ6_bitCount_0f7a4_52
  have K_41 : ∀ (x0 : Int32), f_J6_bitCount_0f7a4_b41 x0 = some res → ∀ (H : Heap) (locs : List Loc) (ls : Array Slot), Hd G b0 V H → va_S (Ab b0) s.heap H locs → lv_has ls 1 [(0, .int x0)] → W p l e (rm 0) s m args below meth c H locs 0 0 (MQ below (QI G b0 res V) args s 0 0 (Ab b0)) (F0 m 41 ls []) := by
    intro x0 hr H locs ls hV hS hl
    unfold f_J6_bitCount_0f7a4_b41 at hr
    refine lv_iload_n hx hb dJ6_bitCount_0f7a4_41 rfl (lv_at hl 0 rfl) ?_
    refine lv_iload_n hx hb dJ6_bitCount_0f7a4_42 rfl (lv_at hl 0 rfl) ?_
    refine lv_bipush (v := 16) hx hb dJ6_bitCount_0f7a4_43 (by decide) ?_
    refine lv_iushr (v := ush x0 16) hx hb dJ6_bitCount_0f7a4_45 rfl ?_
    refine lv_iadd hx hb dJ6_bitCount_0f7a4_46 ?_
    refine lv_istore_n (lv' := [(0, .int (x0 + (ush x0 16)))]) hx hb dJ6_bitCount_0f7a4_47 rfl hl (by decide) rfl (fun ls hl => ?_)
    exact K_48 (x0 + (ush x0 16)) hr _ _ ls hV hS (lv_sub hl [0] rfl)
  have K_34 : ∀ (x0 : Int32), f_J6_bitCount_0f7a4_b34 x0 = some res → ∀ (H : Heap) (locs : List Loc) (ls : Array Slot), Hd G b0 V H → va_S (Ab b0) s.heap H locs → lv_has ls 1 [(0, .int x0)] → W p l e (rm 0) s m args below meth c H locs 0 0 (MQ below (QI G b0 res V) args s 0 0 (Ab b0)) (F0 m 34 ls []) := by
    intro x0 hr H locs ls hV hS hl
    unfold f_J6_bitCount_0f7a4_b34 at hr
    refine lv_iload_n hx hb dJ6_bitCount_0f7a4_34 rfl (lv_at hl 0 rfl) ?_
    refine lv_iload_n hx hb dJ6_bitCount_0f7a4_35 rfl (lv_at hl 0 rfl) ?_
    refine lv_bipush (v := 8) hx hb dJ6_bitCount_0f7a4_36 (by decide) ?_
    refine lv_iushr (v := ush x0 8) hx hb dJ6_bitCount_0f7a4_38 rfl ?_
    refine lv_iadd hx hb dJ6_bitCount_0f7a4_39 ?_
    refine lv_istore_n (lv' := [(0, .int (x0 + (ush x0 8)))]) hx hb dJ6_bitCount_0f7a4_40 rfl hl (by decide) rfl (fun ls hl => ?_)
    exact K_41 (x0 + (ush x0 8)) hr _ _ ls hV hS (lv_sub hl [0] rfl)
  have K_24 : ∀ (x0 : Int32), f_J6_bitCount_0f7a4_b24 x0 = some res → ∀ (H : Heap) (locs : List Loc) (ls : Array Slot), Hd G b0 V H → va_S (Ab b0) s.heap H locs → lv_has ls 1 [(0, .int x0)] → W p l e (rm 0) s m args below meth c H locs 0 0 (MQ below (QI G b0 res V) args s 0 0 (Ab b0)) (F0 m 24 ls []) := by
    intro x0 hr H locs ls hV hS hl
    unfold f_J6_bitCount_0f7a4_b24 at hr
    refine lv_iload_n hx hb dJ6_bitCount_0f7a4_24 rfl (lv_at hl 0 rfl) ?_
    refine lv_iload_n hx hb dJ6_bitCount_0f7a4_25 rfl (lv_at hl 0 rfl) ?_
    refine lv_iconst (v := 4) hx hb dJ6_bitCount_0f7a4_26 (by decide) ?_
    refine lv_iushr (v := ush x0 4) hx hb dJ6_bitCount_0f7a4_27 rfl ?_
    refine lv_iadd hx hb dJ6_bitCount_0f7a4_28 ?_
    refine lv_ldcw (v := 252645135) hx hb hown (hts _ q_504) dJ6_bitCount_0f7a4_29 ?_
    refine lv_iand hx hb dJ6_bitCount_0f7a4_32 ?_
    refine lv_istore_n (lv' := [(0, .int ((x0 + (ush x0 4)) &&& 252645135))]) hx hb dJ6_bitCount_0f7a4_33 rfl hl (by decide) rfl (fun ls hl => ?_)
    exact K_34 ((x0 + (ush x0 4)) &&& 252645135) hr _ _ ls hV hS (lv_sub hl [0] rfl)
  have K_10 : ∀ (x0 : Int32), f_J6_bitCount_0f7a4_b10 x0 = some res → ∀ (H : Heap) (locs : List Loc) (ls : Array Slot), Hd G b0 V H → va_S (Ab b0) s.heap H locs → lv_has ls 1 [(0, .int x0)] → W p l e (rm 0) s m args below meth c H locs 0 0 (MQ below (QI G b0 res V) args s 0 0 (Ab b0)) (F0 m 10 ls []) := by
    intro x0 hr H locs ls hV hS hl
    unfold f_J6_bitCount_0f7a4_b10 at hr
    refine lv_iload_n hx hb dJ6_bitCount_0f7a4_10 rfl (lv_at hl 0 rfl) ?_
    refine lv_ldcw (v := 858993459) hx hb hown (hts _ q_503) dJ6_bitCount_0f7a4_11 ?_
    refine lv_iand hx hb dJ6_bitCount_0f7a4_14 ?_
    refine lv_iload_n hx hb dJ6_bitCount_0f7a4_15 rfl (lv_at hl 0 rfl) ?_
    refine lv_iconst (v := 2) hx hb dJ6_bitCount_0f7a4_16 (by decide) ?_
    refine lv_iushr (v := ush x0 2) hx hb dJ6_bitCount_0f7a4_17 rfl ?_
    refine lv_ldcw (v := 858993459) hx hb hown (hts _ q_503) dJ6_bitCount_0f7a4_18 ?_
    refine lv_iand hx hb dJ6_bitCount_0f7a4_21 ?_
    refine lv_iadd hx hb dJ6_bitCount_0f7a4_22 ?_
    refine lv_istore_n (lv' := [(0, .int ((x0 &&& 858993459) + ((ush x0 2) &&& 858993459)))]) hx hb dJ6_bitCount_0f7a4_23 rfl hl (by decide) rfl (fun ls hl => ?_)
    exact K_24 ((x0 &&& 858993459) + ((ush x0 2) &&& 858993459)) hr _ _ ls hV hS (lv_sub hl [0] rfl)
  unfold f_J6_bitCount_0f7a4 at hr
  refine lv_iload_n hx hb dJ6_bitCount_0f7a4_0 rfl (lv_at hl 0 rfl) ?_
  refine lv_iload_n hx hb dJ6_bitCount_0f7a4_1 rfl (lv_at hl 0 rfl) ?_
  refine lv_iconst (v := 1) hx hb dJ6_bitCount_0f7a4_2 (by decide) ?_
  refine lv_iushr (v := ush x0 1) hx hb dJ6_bitCount_0f7a4_3 rfl ?_
  refine lv_ldcw (v := 1431655765) hx hb hown (hts _ q_502) dJ6_bitCount_0f7a4_4 ?_
  refine lv_iand hx hb dJ6_bitCount_0f7a4_7 ?_
  refine lv_isub hx hb dJ6_bitCount_0f7a4_8 ?_
  refine lv_istore_n (lv' := [(0, .int (x0 - ((ush x0 1) &&& 1431655765)))]) hx hb dJ6_bitCount_0f7a4_9 rfl hl (by decide) rfl (fun ls hl => ?_)
  exact K_10 (x0 - ((ush x0 1) &&& 1431655765)) hr _ _ ls hV hS (lv_sub hl [0] rfl)
set_option maxHeartbeats 4000000 in
set_option maxRecDepth 100000 in
theorem c_X3_countTorn (l : Launch) (G : LG) (b0 : Nat) (V : St) (k0 : Nat) (hk0 : kd k0 = 5) (res : Int32) (hr : f_X3_countTorn V k0 = some res) : Met l yX3_countTorn (wy yX3_countTorn cX3_countTorn 1 (some .int)) (rm 1) (va_Pc [.ref (b0 + k0)] (Iv G b0 V)) (QI G b0 res V) 0 0 (Ab b0) := by
  refine mk_m (by decide +kernel) (Nat.le_of_ble_eq_true rfl) ?_
  intro p e s m below meth c C hV hS ls hl
  obtain ⟨args, hargs⟩ : ∃ z, z = ([.ref (b0 + k0)] : List Value).toArray := ⟨_, rfl⟩
  rw [← hargs] at C ⊢
  obtain ⟨hx, hb, hrt, hml, hown, hts, hlocks, hK, hSv⟩ := id C
  have hl : lv_has ls 1 [(0, .ref (b0 + k0))] := hl
  unfold f_X3_countTorn at hr
  refine lv_aload_n hx hb dX3_countTorn_0 rfl (lv_at hl 0 rfl) ?_
  refine g_X3_2 (k := k0) C hV hk0 q_158 dX3_countTorn_1 ?_
  obtain ⟨q1, e1, hr⟩ := ob hr
  refine cal_i (run_S (As := [.int (V k0 2)]) (rest := []) C hV hS (c_J6_bitCount_0f7a4 l G b0 V (V k0 2) q1 e1) q_550 q_500 q_104 q_501 dk_J6_bitCount_0f7a4 (rm_ok (by decide) (by decide)) hl.1 rfl (Nat.le_of_ble_eq_true rfl) dX3_countTorn_4 ⟨Nat.zero_le _, Nat.zero_le _⟩) hS (fun H locs hV hS => ?_)
  refine lv_aload_n hx hb dX3_countTorn_7 rfl (lv_at hl 0 rfl) ?_
  refine g_X3_3 (k := k0) C hV hk0 q_159 dX3_countTorn_8 ?_
  obtain ⟨q2, e2, hr⟩ := ob hr
  refine cal_i (run_S (As := [.int (V k0 3)]) (rest := [.int q1]) C hV hS (c_J6_bitCount_0f7a4 l G b0 V (V k0 3) q2 e2) q_550 q_500 q_104 q_501 dk_J6_bitCount_0f7a4 (rm_ok (by decide) (by decide)) hl.1 rfl (Nat.le_of_ble_eq_true rfl) dX3_countTorn_11 ⟨Nat.zero_le _, Nat.zero_le _⟩) hS (fun H locs hV hS => ?_)
  refine lv_iadd hx hb dX3_countTorn_14 ?_
  exact fin_i C hV hS (Option.some.inj hr) dX3_countTorn_15
set_option maxHeartbeats 4000000 in
set_option maxRecDepth 100000 in
theorem c_X3_twineForAll (l : Launch) (G : LG) (b0 : Nat) (V : St) (k0 : Nat) (hk0 : kd k0 = 5) (res : Int32) (hr : f_X3_twineForAll V k0 = some res) : Met l yX3_twineForAll (wy yX3_twineForAll cX3_twineForAll 1 (some .int)) (rm 1) (va_Pc [.ref (b0 + k0)] (Iv G b0 V)) (QI G b0 res V) 0 0 (Ab b0) := by
  refine mk_m (by decide +kernel) (Nat.le_of_ble_eq_true rfl) ?_
  intro p e s m below meth c C hV hS ls hl
  obtain ⟨args, hargs⟩ : ∃ z, z = ([.ref (b0 + k0)] : List Value).toArray := ⟨_, rfl⟩
  rw [← hargs] at C ⊢
  obtain ⟨hx, hb, hrt, hml, hown, hts, hlocks, hK, hSv⟩ := id C
  have hl : lv_has ls 1 [(0, .ref (b0 + k0))] := hl
  unfold f_X3_twineForAll at hr
  refine lv_iconst (v := 1) hx hb dX3_twineForAll_0 (by decide) ?_
  refine lv_aload_n hx hb dX3_twineForAll_1 rfl (lv_at hl 0 rfl) ?_
  refine g_X3_2 (k := k0) C hV hk0 q_158 dX3_twineForAll_2 ?_
  obtain ⟨q1, e1, hr⟩ := ob hr
  refine cal_i (run_S (As := [.int (V k0 2)]) (rest := [.int 1]) C hV hS (c_J6_bitCount_0f7a4 l G b0 V (V k0 2) q1 e1) q_550 q_500 q_104 q_501 dk_J6_bitCount_0f7a4 (rm_ok (by decide) (by decide)) hl.1 rfl (Nat.le_of_ble_eq_true rfl) dX3_twineForAll_5 ⟨Nat.zero_le _, Nat.zero_le _⟩) hS (fun H locs hV hS => ?_)
  refine lv_imul hx hb dX3_twineForAll_8 ?_
  refine lv_iconst (v := 2) hx hb dX3_twineForAll_9 (by decide) ?_
  refine lv_aload_n hx hb dX3_twineForAll_10 rfl (lv_at hl 0 rfl) ?_
  refine g_X3_3 (k := k0) C hV hk0 q_159 dX3_twineForAll_11 ?_
  obtain ⟨q2, e2, hr⟩ := ob hr
  refine cal_i (run_S (As := [.int (V k0 3)]) (rest := [.int 2, .int (1 * q1)]) C hV hS (c_J6_bitCount_0f7a4 l G b0 V (V k0 3) q2 e2) q_550 q_500 q_104 q_501 dk_J6_bitCount_0f7a4 (rm_ok (by decide) (by decide)) hl.1 rfl (Nat.le_of_ble_eq_true rfl) dX3_twineForAll_14 ⟨Nat.zero_le _, Nat.zero_le _⟩) hS (fun H locs hV hS => ?_)
  refine lv_imul hx hb dX3_twineForAll_17 ?_
  refine lv_iadd hx hb dX3_twineForAll_18 ?_
  exact fin_i C hV hS (Option.some.inj hr) dX3_twineForAll_19
set_option maxHeartbeats 4000000 in
set_option maxRecDepth 100000 in
theorem c_X9_within (l : Launch) (G : LG) (b0 : Nat) (V : St) (x0 : Int32) (x1 : Int32) (x2 : Int32) (res : Int32) (hr : f_X9_within x0 x1 x2 = some res) : Met l yX9_within (wy yX9_within cX9_within 3 (some .int)) (rm 0) (va_Pc [.int x0, .int x1, .int x2] (Iv G b0 V)) (QI G b0 res V) 0 0 (Ab b0) := by
  refine mk_m (by decide +kernel) (Nat.le_of_ble_eq_true rfl) ?_
  intro p e s m below meth c C hV hS ls hl
  obtain ⟨args, hargs⟩ : ∃ z, z = ([.int x0, .int x1, .int x2] : List Value).toArray := ⟨_, rfl⟩
  rw [← hargs] at C ⊢
  obtain ⟨hx, hb, hrt, hml, hown, hts, hlocks, hK, hSv⟩ := id C
  have hl : lv_has ls 3 [(0, .int x0), (1, .int x1), (2, .int x2)] := hl
  unfold f_X9_within at hr
  refine lv_iload_n hx hb dX9_within_0 rfl (lv_at hl 0 rfl) ?_
  refine lv_iload_n hx hb dX9_within_1 rfl (lv_at hl 0 rfl) ?_
  refine lv_iload_n hx hb dX9_within_2 rfl (lv_at hl 2 rfl) ?_
  refine lv_ishr hx hb dX9_within_3 ?_
  refine lv_iand hx hb dX9_within_4 ?_
  refine lv_iload_n hx hb dX9_within_5 rfl (lv_at hl 1 rfl) ?_
  refine lv_iand hx hb dX9_within_6 ?_
  exact fin_i C hV hS (Option.some.inj hr) dX9_within_7
set_option maxHeartbeats 4000000 in
set_option maxRecDepth 100000 in
theorem c_X3_countWholeWithin (l : Launch) (G : LG) (b0 : Nat) (V : St) (k0 : Nat) (hk0 : kd k0 = 5) (x1 : Int32) (res : Int32) (hr : f_X3_countWholeWithin V k0 x1 = some res) : Met l yX3_countWholeWithin (wy yX3_countWholeWithin cX3_countWholeWithin 2 (some .int)) (rm 1) (va_Pc [.ref (b0 + k0), .int x1] (Iv G b0 V)) (QI G b0 res V) 0 0 (Ab b0) := by
  refine mk_m (by decide +kernel) (Nat.le_of_ble_eq_true rfl) ?_
  intro p e s m below meth c C hV hS ls hl
  obtain ⟨args, hargs⟩ : ∃ z, z = ([.ref (b0 + k0), .int x1] : List Value).toArray := ⟨_, rfl⟩
  rw [← hargs] at C ⊢
  obtain ⟨hx, hb, hrt, hml, hown, hts, hlocks, hK, hSv⟩ := id C
  have hl : lv_has ls 2 [(0, .ref (b0 + k0)), (1, .int x1)] := hl
  unfold f_X3_countWholeWithin at hr
  refine lv_iload_n hx hb dX3_countWholeWithin_0 rfl (lv_at hl 1 rfl) ?_
  refine lv_aload_n hx hb dX3_countWholeWithin_1 rfl (lv_at hl 0 rfl) ?_
  obtain ⟨q1, e1, hr⟩ := ob hr
  refine cal_i (run_V (As := []) (rest := [.int x1]) C hV hS (c_X3_wholeAcross l G b0 V k0 hk0 q1 e1) (rcv hK hV (kd_lt hk0 (by decide)) (cel_5 hk0) rfl) q_509 q_511 q_5 q_95 q_512 dk_X3_wholeAcross (rm_ok (by decide) (by decide)) hl.1 rfl (Nat.le_of_ble_eq_true rfl) dX3_countWholeWithin_2 ⟨Nat.zero_le _, Nat.zero_le _⟩) hS (fun H locs hV hS => ?_)
  refine lv_iconst (v := 1) hx hb dX3_countWholeWithin_5 (by decide) ?_
  obtain ⟨q2, e2, hr⟩ := ob hr
  refine cal_i (run_SN (As := [.int x1, .int q1, .int 1]) (rest := []) C hV hS (c_X9_within l G b0 V x1 q1 1 q2 e2) q_1355 q_1356 q_93 q_1357 dk_X9_within (rm_ok (by decide) (by decide)) hl.1 rfl (Nat.le_of_ble_eq_true rfl) dX3_countWholeWithin_6 ⟨Nat.zero_le _, Nat.zero_le _⟩) hS (fun H locs hV hS => ?_)
  obtain ⟨q3, e3, hr⟩ := ob hr
  refine cal_i (run_S (As := [.int q2]) (rest := []) C hV hS (c_J6_bitCount_0f7a4 l G b0 V q2 q3 e3) q_550 q_500 q_104 q_501 dk_J6_bitCount_0f7a4 (rm_ok (by decide) (by decide)) hl.1 rfl (Nat.le_of_ble_eq_true rfl) dX3_countWholeWithin_9 ⟨Nat.zero_le _, Nat.zero_le _⟩) hS (fun H locs hV hS => ?_)
  refine lv_iload_n hx hb dX3_countWholeWithin_12 rfl (lv_at hl 1 rfl) ?_
  refine lv_aload_n hx hb dX3_countWholeWithin_13 rfl (lv_at hl 0 rfl) ?_
  obtain ⟨q4, e4, hr⟩ := ob hr
  refine cal_i (run_V (As := []) (rest := [.int x1, .int q3]) C hV hS (c_X3_wholeDown l G b0 V k0 hk0 q4 e4) (rcv hK hV (kd_lt hk0 (by decide)) (cel_5 hk0) rfl) q_514 q_516 q_6 q_95 q_517 dk_X3_wholeDown (rm_ok (by decide) (by decide)) hl.1 rfl (Nat.le_of_ble_eq_true rfl) dX3_countWholeWithin_14 ⟨Nat.zero_le _, Nat.zero_le _⟩) hS (fun H locs hV hS => ?_)
  refine lv_bipush (v := 6) hx hb dX3_countWholeWithin_17 (by decide) ?_
  obtain ⟨q5, e5, hr⟩ := ob hr
  refine cal_i (run_SN (As := [.int x1, .int q4, .int 6]) (rest := [.int q3]) C hV hS (c_X9_within l G b0 V x1 q4 6 q5 e5) q_1355 q_1356 q_93 q_1357 dk_X9_within (rm_ok (by decide) (by decide)) hl.1 rfl (Nat.le_of_ble_eq_true rfl) dX3_countWholeWithin_19 ⟨Nat.zero_le _, Nat.zero_le _⟩) hS (fun H locs hV hS => ?_)
  obtain ⟨q6, e6, hr⟩ := ob hr
  refine cal_i (run_S (As := [.int q5]) (rest := [.int q3]) C hV hS (c_J6_bitCount_0f7a4 l G b0 V q5 q6 e6) q_550 q_500 q_104 q_501 dk_J6_bitCount_0f7a4 (rm_ok (by decide) (by decide)) hl.1 rfl (Nat.le_of_ble_eq_true rfl) dX3_countWholeWithin_22 ⟨Nat.zero_le _, Nat.zero_le _⟩) hS (fun H locs hV hS => ?_)
  refine lv_iadd hx hb dX3_countWholeWithin_25 ?_
  exact fin_i C hV hS (Option.some.inj hr) dX3_countWholeWithin_26
set_option maxHeartbeats 4000000 in
set_option maxRecDepth 100000 in
theorem c_X9_beside (l : Launch) (G : LG) (b0 : Nat) (V : St) (x0 : Int32) (x1 : Int32) (x2 : Int32) (res : Int32) (hr : f_X9_beside x0 x1 x2 = some res) : Met l yX9_beside (wy yX9_beside cX9_beside 3 (some .int)) (rm 0) (va_Pc [.int x0, .int x1, .int x2] (Iv G b0 V)) (QI G b0 res V) 0 0 (Ab b0) := by
  refine mk_m (by decide +kernel) (Nat.le_of_ble_eq_true rfl) ?_
  intro p e s m below meth c C hV hS ls hl
  obtain ⟨args, hargs⟩ : ∃ z, z = ([.int x0, .int x1, .int x2] : List Value).toArray := ⟨_, rfl⟩
  rw [← hargs] at C ⊢
  obtain ⟨hx, hb, hrt, hml, hown, hts, hlocks, hK, hSv⟩ := id C
  have hl : lv_has ls 3 [(0, .int x0), (1, .int x1), (2, .int x2)] := hl
  unfold f_X9_beside at hr
  refine lv_iload_n hx hb dX9_beside_0 rfl (lv_at hl 0 rfl) ?_
  refine lv_iload_n hx hb dX9_beside_1 rfl (lv_at hl 1 rfl) ?_
  refine lv_iand hx hb dX9_beside_2 ?_
  refine lv_iconst (v := 1) hx hb dX9_beside_3 (by decide) ?_
  refine lv_ishl hx hb dX9_beside_4 ?_
  refine lv_iload_n hx hb dX9_beside_5 rfl (lv_at hl 0 rfl) ?_
  refine lv_iconst (v := 1) hx hb dX9_beside_6 (by decide) ?_
  refine lv_ishr hx hb dX9_beside_7 ?_
  refine lv_iload_n hx hb dX9_beside_8 rfl (lv_at hl 1 rfl) ?_
  refine lv_iand hx hb dX9_beside_9 ?_
  refine lv_ior hx hb dX9_beside_10 ?_
  refine lv_iload_n hx hb dX9_beside_11 rfl (lv_at hl 0 rfl) ?_
  refine lv_iload_n hx hb dX9_beside_12 rfl (lv_at hl 2 rfl) ?_
  refine lv_iand hx hb dX9_beside_13 ?_
  refine lv_bipush (v := 6) hx hb dX9_beside_14 (by decide) ?_
  refine lv_ishl hx hb dX9_beside_16 ?_
  refine lv_ior hx hb dX9_beside_17 ?_
  refine lv_iload_n hx hb dX9_beside_18 rfl (lv_at hl 0 rfl) ?_
  refine lv_bipush (v := 6) hx hb dX9_beside_19 (by decide) ?_
  refine lv_ishr hx hb dX9_beside_21 ?_
  refine lv_iload_n hx hb dX9_beside_22 rfl (lv_at hl 2 rfl) ?_
  refine lv_iand hx hb dX9_beside_23 ?_
  refine lv_ior hx hb dX9_beside_24 ?_
  exact fin_i C hV hS (Option.some.inj hr) dX9_beside_25
set_option maxHeartbeats 4000000 in
set_option maxRecDepth 100000 in
theorem c_X3_chapterAt (l : Launch) (G : LG) (b0 : Nat) (V : St) (k0 : Nat) (hk0 : kd k0 = 5) (x1 : Int32) (res : Int32) (hr : f_X3_chapterAt V k0 x1 = some res) : Met l yX3_chapterAt (wy yX3_chapterAt cX3_chapterAt 5 (some .int)) (rm 1) (va_Pc [.ref (b0 + k0), .int x1] (Iv G b0 V)) (QI G b0 res V) 0 0 (Ab b0) := by
  refine mk_m (by decide +kernel) (Nat.le_of_ble_eq_true rfl) ?_
  intro p e s m below meth c C hV hS ls hl
  obtain ⟨args, hargs⟩ : ∃ z, z = ([.ref (b0 + k0), .int x1] : List Value).toArray := ⟨_, rfl⟩
  rw [← hargs] at C ⊢
  obtain ⟨hx, hb, hrt, hml, hown, hts, hlocks, hK, hSv⟩ := id C
  have hl : lv_has ls 5 [(0, .ref (b0 + k0)), (1, .int x1)] := hl
  have K_11 : ∀ (n : Nat) (k0 : Nat) (hk0 : kd k0 = 5) (x2 : Int32) (x3 : Int32), f_X3_chapterAt_b11 n V k0 x2 x3 = some res → ∀ (H : Heap) (locs : List Loc) (ls : Array Slot), Hd G b0 V H → va_S (Ab b0) s.heap H locs → lv_has ls 5 [(0, .ref (b0 + k0)), (2, .int x2), (3, .int x3)] → W p l e (rm 1) s m args below meth c H locs 0 0 (MQ below (QI G b0 res V) args s 0 0 (Ab b0)) (F0 m 11 ls []) := by
    intro  n
    induction n with
    | zero =>
      intro k0 hk0 x2 x3 hr
      rw [f_X3_chapterAt_b11] at hr
      cases hr
    | succ n ih =>
      intro k0 hk0 x2 x3 hr H locs ls hV hS hl
      rw [f_X3_chapterAt_b11] at hr
      refine lv_iload_n hx hb dX3_chapterAt_11 rfl (lv_at hl 2 rfl) ?_
      refine lv_bipush (v := 24) hx hb dX3_chapterAt_12 (by decide) ?_
      refine lv_icmp_ge (tgt := 55) hx hb dX3_chapterAt_14 (by decide) (fun b_1 => ?_) (fun b_1 => ?_)
      · have hr := it b_1 hr
        refine lv_iload_n hx hb dX3_chapterAt_55 rfl (lv_at hl 1 rfl) ?_
        exact fin_i C hV hS (Option.some.inj hr) dX3_chapterAt_56
      · have hr := ie b_1 hr
        refine lv_iload_n hx hb dX3_chapterAt_17 rfl (lv_at hl 1 rfl) ?_
        refine lv_iload_n hx hb dX3_chapterAt_18 rfl (lv_at hl 1 rfl) ?_
        refine lv_aload_n hx hb dX3_chapterAt_19 rfl (lv_at hl 0 rfl) ?_
        obtain ⟨q2, e2, hr⟩ := ob hr
        refine cal_i (run_V (As := []) (rest := [.int x2, .int x2]) C hV hS (c_X3_wholeAcross l G b0 V k0 hk0 q2 e2) (rcv hK hV (kd_lt hk0 (by decide)) (cel_5 hk0) rfl) q_509 q_511 q_5 q_95 q_512 dk_X3_wholeAcross (rm_ok (by decide) (by decide)) hl.1 rfl (Nat.le_of_ble_eq_true rfl) dX3_chapterAt_20 ⟨Nat.zero_le _, Nat.zero_le _⟩) hS (fun H locs hV hS => ?_)
        refine lv_aload_n hx hb dX3_chapterAt_23 rfl (lv_at hl 0 rfl) ?_
        obtain ⟨q3, e3, hr⟩ := ob hr
        refine cal_i (run_V (As := []) (rest := [.int q2, .int x2, .int x2]) C hV hS (c_X3_wholeDown l G b0 V k0 hk0 q3 e3) (rcv hK hV (kd_lt hk0 (by decide)) (cel_5 hk0) rfl) q_514 q_516 q_6 q_95 q_517 dk_X3_wholeDown (rm_ok (by decide) (by decide)) hl.1 rfl (Nat.le_of_ble_eq_true rfl) dX3_chapterAt_24 ⟨Nat.zero_le _, Nat.zero_le _⟩) hS (fun H locs hV hS => ?_)
        obtain ⟨q4, e4, hr⟩ := ob hr
        refine cal_i (run_SN (As := [.int x2, .int q2, .int q3]) (rest := [.int x2]) C hV hS (c_X9_beside l G b0 V x2 q2 q3 q4 e4) q_519 q_520 q_93 q_521 dk_X9_beside (rm_ok (by decide) (by decide)) hl.1 rfl (Nat.le_of_ble_eq_true rfl) dX3_chapterAt_27 ⟨Nat.zero_le _, Nat.zero_le _⟩) hS (fun H locs hV hS => ?_)
        refine lv_aload_n hx hb dX3_chapterAt_30 rfl (lv_at hl 0 rfl) ?_
        obtain ⟨q5, e5, hr⟩ := ob hr
        refine cal_i (run_V (As := []) (rest := [.int q4, .int x2]) C hV hS (c_X3_knots l G b0 V k0 hk0 q5 e5) (rcv hK hV (kd_lt hk0 (by decide)) (cel_5 hk0) rfl) q_492 q_494 q_3 q_95 q_495 dk_X3_knots (rm_ok (by decide) (by decide)) hl.1 rfl (Nat.le_of_ble_eq_true rfl) dX3_chapterAt_31 ⟨Nat.zero_le _, Nat.zero_le _⟩) hS (fun H locs hV hS => ?_)
        refine lv_iand hx hb dX3_chapterAt_34 ?_
        refine lv_ior hx hb dX3_chapterAt_35 ?_
        refine lv_istore (lv' := [(4, .int (x2 ||| (q4 &&& q5))), (0, .ref (b0 + k0)), (2, .int x2), (3, .int x3)]) hx hb dX3_chapterAt_36 hl (by decide) rfl (fun ls hl => ?_)
        refine lv_iload hx hb dX3_chapterAt_38 (lv_at hl 0 rfl) ?_
        refine lv_iload_n hx hb dX3_chapterAt_40 rfl (lv_at hl 2 rfl) ?_
        refine lv_icmp_ne (tgt := 46) hx hb dX3_chapterAt_41 (by decide) (fun b_6 => ?_) (fun b_6 => ?_)
        · have hr := ie b_6 hr
          refine lv_iload hx hb dX3_chapterAt_46 (lv_at hl 0 rfl) ?_
          refine lv_istore_n (lv' := [(2, .int (x2 ||| (q4 &&& q5))), (4, .int (x2 ||| (q4 &&& q5))), (0, .ref (b0 + k0)), (3, .int x3)]) hx hb dX3_chapterAt_48 rfl hl (by decide) rfl (fun ls hl => ?_)
          refine lv_iinc (v := x3 + 1) (lv' := [(3, .int (x3 + 1)), (2, .int (x2 ||| (q4 &&& q5))), (4, .int (x2 ||| (q4 &&& q5))), (0, .ref (b0 + k0))]) hx hb dX3_chapterAt_49 hl (k := 3) rfl rfl (by decide) rfl (fun ls hl => ?_)
          refine lv_goto (tgt := 11) hx hb dX3_chapterAt_52 (by decide) ?_
          exact ih k0 hk0 (x2 ||| (q4 &&& q5)) (x3 + 1) hr _ _ ls hV hS (lv_sub hl [3, 1, 0] rfl)
        · have hr := it b_6 hr
          refine lv_iload_n hx hb dX3_chapterAt_44 rfl (lv_at hl 2 rfl) ?_
          exact fin_i C hV hS (Option.some.inj hr) dX3_chapterAt_45
  unfold f_X3_chapterAt at hr
  refine lv_aload_n hx hb dX3_chapterAt_0 rfl (lv_at hl 0 rfl) ?_
  obtain ⟨q7, e7, hr⟩ := ob hr
  refine cal_i (run_V (As := []) (rest := []) C hV hS (c_X3_knots l G b0 V k0 hk0 q7 e7) (rcv hK hV (kd_lt hk0 (by decide)) (cel_5 hk0) rfl) q_492 q_494 q_3 q_95 q_495 dk_X3_knots (rm_ok (by decide) (by decide)) hl.1 rfl (Nat.le_of_ble_eq_true rfl) dX3_chapterAt_1 ⟨Nat.zero_le _, Nat.zero_le _⟩) hS (fun H locs hV hS => ?_)
  refine lv_iconst (v := 1) hx hb dX3_chapterAt_4 (by decide) ?_
  refine lv_iload_n hx hb dX3_chapterAt_5 rfl (lv_at hl 1 rfl) ?_
  refine lv_ishl hx hb dX3_chapterAt_6 ?_
  refine lv_iand hx hb dX3_chapterAt_7 ?_
  refine lv_istore_n (lv' := [(2, .int (q7 &&& (1 <<< (x1 &&& 31)))), (0, .ref (b0 + k0)), (1, .int x1)]) hx hb dX3_chapterAt_8 rfl hl (by decide) rfl (fun ls hl => ?_)
  refine lv_iconst (v := 0) hx hb dX3_chapterAt_9 (by decide) ?_
  refine lv_istore_n (lv' := [(3, .int 0), (2, .int (q7 &&& (1 <<< (x1 &&& 31)))), (0, .ref (b0 + k0)), (1, .int x1)]) hx hb dX3_chapterAt_10 rfl hl (by decide) rfl (fun ls hl => ?_)
  exact K_11 500 k0 hk0 (q7 &&& (1 <<< (x1 &&& 31))) 0 hr _ _ ls hV hS (lv_sub hl [2, 1, 0] rfl)
set_option maxHeartbeats 4000000 in
set_option maxRecDepth 100000 in
theorem c_X9_lowestPlace (l : Launch) (G : LG) (b0 : Nat) (V : St) (x0 : Int32) (res : Int32) (hr : f_X9_lowestPlace x0 = some res) : Met l yX9_lowestPlace (wy yX9_lowestPlace cX9_lowestPlace 1 (some .int)) (rm 1) (va_Pc [.int x0] (Iv G b0 V)) (QI G b0 res V) 0 0 (Ab b0) := by
  refine mk_m (by decide +kernel) (Nat.le_of_ble_eq_true rfl) ?_
  intro p e s m below meth c C hV hS ls hl
  obtain ⟨args, hargs⟩ : ∃ z, z = ([.int x0] : List Value).toArray := ⟨_, rfl⟩
  rw [← hargs] at C ⊢
  obtain ⟨hx, hb, hrt, hml, hown, hts, hlocks, hK, hSv⟩ := id C
  have hl : lv_has ls 1 [(0, .int x0)] := hl
  unfold f_X9_lowestPlace at hr
  refine lv_iload_n hx hb dX9_lowestPlace_0 rfl (lv_at hl 0 rfl) ?_
  refine lv_iload_n hx hb dX9_lowestPlace_1 rfl (lv_at hl 0 rfl) ?_
  refine lv_ineg hx hb dX9_lowestPlace_2 ?_
  refine lv_iand hx hb dX9_lowestPlace_3 ?_
  refine lv_iconst (v := 1) hx hb dX9_lowestPlace_4 (by decide) ?_
  refine lv_isub hx hb dX9_lowestPlace_5 ?_
  obtain ⟨q1, e1, hr⟩ := ob hr
  refine cal_i (run_S (As := [.int ((x0 &&& (-x0)) - 1)]) (rest := []) C hV hS (c_J6_bitCount_0f7a4 l G b0 V ((x0 &&& (-x0)) - 1) q1 e1) q_499 q_500 q_104 q_501 dk_J6_bitCount_0f7a4 (rm_ok (by decide) (by decide)) hl.1 rfl (Nat.le_of_ble_eq_true rfl) dX9_lowestPlace_6 ⟨Nat.zero_le _, Nat.zero_le _⟩) hS (fun H locs hV hS => ?_)
  exact fin_i C hV hS (Option.some.inj hr) dX9_lowestPlace_9
set_option maxHeartbeats 4000000 in
set_option maxRecDepth 100000 in
theorem c_X3_countChapters (l : Launch) (G : LG) (b0 : Nat) (V : St) (k0 : Nat) (hk0 : kd k0 = 5) (res : Int32) (hr : f_X3_countChapters V k0 = some res) : Met l yX3_countChapters (wy yX3_countChapters cX3_countChapters 3 (some .int)) (rm 2) (va_Pc [.ref (b0 + k0)] (Iv G b0 V)) (QI G b0 res V) 0 0 (Ab b0) := by
  refine mk_m (by decide +kernel) (Nat.le_of_ble_eq_true rfl) ?_
  intro p e s m below meth c C hV hS ls hl
  obtain ⟨args, hargs⟩ : ∃ z, z = ([.ref (b0 + k0)] : List Value).toArray := ⟨_, rfl⟩
  rw [← hargs] at C ⊢
  obtain ⟨hx, hb, hrt, hml, hown, hts, hlocks, hK, hSv⟩ := id C
  have hl : lv_has ls 3 [(0, .ref (b0 + k0))] := hl
  have K_7 : ∀ (n : Nat) (k0 : Nat) (hk0 : kd k0 = 5) (x1 : Int32) (x2 : Int32), f_X3_countChapters_b7 n V k0 x1 x2 = some res → ∀ (H : Heap) (locs : List Loc) (ls : Array Slot), Hd G b0 V H → va_S (Ab b0) s.heap H locs → lv_has ls 3 [(0, .ref (b0 + k0)), (1, .int x1), (2, .int x2)] → W p l e (rm 2) s m args below meth c H locs 0 0 (MQ below (QI G b0 res V) args s 0 0 (Ab b0)) (F0 m 7 ls []) := by
    intro  n
    induction n with
    | zero =>
      intro k0 hk0 x1 x2 hr
      rw [f_X3_countChapters_b7] at hr
      cases hr
    | succ n ih =>
      intro k0 hk0 x1 x2 hr H locs ls hV hS hl
      rw [f_X3_countChapters_b7] at hr
      refine lv_iload_n hx hb dX3_countChapters_7 rfl (lv_at hl 1 rfl) ?_
      refine lv_if_eq (tgt := 36) hx hb dX3_countChapters_8 (by decide) (fun b_1 => ?_) (fun b_1 => ?_)
      · have hr := it b_1 hr
        refine lv_iload_n hx hb dX3_countChapters_36 rfl (lv_at hl 2 rfl) ?_
        exact fin_i C hV hS (Option.some.inj hr) dX3_countChapters_37
      · have hr := ie b_1 hr
        refine lv_iload_n hx hb dX3_countChapters_11 rfl (lv_at hl 2 rfl) ?_
        refine lv_bipush (v := 24) hx hb dX3_countChapters_12 (by decide) ?_
        refine lv_icmp_ge (tgt := 36) hx hb dX3_countChapters_14 (by decide) (fun b_2 => ?_) (fun b_2 => ?_)
        · have hr := it b_2 hr
          refine lv_iload_n hx hb dX3_countChapters_36 rfl (lv_at hl 2 rfl) ?_
          exact fin_i C hV hS (Option.some.inj hr) dX3_countChapters_37
        · have hr := ie b_2 hr
          refine lv_iload_n hx hb dX3_countChapters_17 rfl (lv_at hl 1 rfl) ?_
          refine lv_aload_n hx hb dX3_countChapters_18 rfl (lv_at hl 0 rfl) ?_
          refine lv_iload_n hx hb dX3_countChapters_19 rfl (lv_at hl 1 rfl) ?_
          obtain ⟨q3, e3, hr⟩ := ob hr
          refine cal_i (run_SN (As := [.int x1]) (rest := [.ref (b0 + k0), .int x1]) C hV hS (c_X9_lowestPlace l G b0 V x1 q3 e3) q_496 q_497 q_93 q_498 dk_X9_lowestPlace (rm_ok (by decide) (by decide)) hl.1 rfl (Nat.le_of_ble_eq_true rfl) dX3_countChapters_20 ⟨Nat.zero_le _, Nat.zero_le _⟩) hS (fun H locs hV hS => ?_)
          obtain ⟨q4, e4, hr⟩ := ob hr
          refine cal_i (run_V (As := [.int q3]) (rest := [.int x1]) C hV hS (c_X3_chapterAt l G b0 V k0 hk0 q3 q4 e4) (rcv hK hV (kd_lt hk0 (by decide)) (cel_5 hk0) rfl) q_505 q_507 q_4 q_95 q_508 dk_X3_chapterAt (rm_ok (by decide) (by decide)) hl.1 rfl (Nat.le_of_ble_eq_true rfl) dX3_countChapters_23 ⟨Nat.zero_le _, Nat.zero_le _⟩) hS (fun H locs hV hS => ?_)
          refine lv_iconst (v := (-1)) hx hb dX3_countChapters_26 (by decide) ?_
          refine lv_ixor hx hb dX3_countChapters_27 ?_
          refine lv_iand hx hb dX3_countChapters_28 ?_
          refine lv_istore_n (lv' := [(1, .int (x1 &&& (q4 ^^^ (-1)))), (0, .ref (b0 + k0)), (2, .int x2)]) hx hb dX3_countChapters_29 rfl hl (by decide) rfl (fun ls hl => ?_)
          refine lv_iinc (v := x2 + 1) (lv' := [(2, .int (x2 + 1)), (1, .int (x1 &&& (q4 ^^^ (-1)))), (0, .ref (b0 + k0))]) hx hb dX3_countChapters_30 hl (k := 2) rfl rfl (by decide) rfl (fun ls hl => ?_)
          refine lv_goto (tgt := 7) hx hb dX3_countChapters_33 (by decide) ?_
          exact ih k0 hk0 (x1 &&& (q4 ^^^ (-1))) (x2 + 1) hr _ _ ls hV hS (lv_sub hl [2, 1, 0] rfl)
  unfold f_X3_countChapters at hr
  refine lv_aload_n hx hb dX3_countChapters_0 rfl (lv_at hl 0 rfl) ?_
  obtain ⟨q5, e5, hr⟩ := ob hr
  refine cal_i (run_V (As := []) (rest := []) C hV hS (c_X3_knots l G b0 V k0 hk0 q5 e5) (rcv hK hV (kd_lt hk0 (by decide)) (cel_5 hk0) rfl) q_492 q_494 q_3 q_95 q_495 dk_X3_knots (rm_ok (by decide) (by decide)) hl.1 rfl (Nat.le_of_ble_eq_true rfl) dX3_countChapters_1 ⟨Nat.zero_le _, Nat.zero_le _⟩) hS (fun H locs hV hS => ?_)
  refine lv_istore_n (lv' := [(1, .int q5), (0, .ref (b0 + k0))]) hx hb dX3_countChapters_4 rfl hl (by decide) rfl (fun ls hl => ?_)
  refine lv_iconst (v := 0) hx hb dX3_countChapters_5 (by decide) ?_
  refine lv_istore_n (lv' := [(2, .int 0), (1, .int q5), (0, .ref (b0 + k0))]) hx hb dX3_countChapters_6 rfl hl (by decide) rfl (fun ls hl => ?_)
  exact K_7 500 k0 hk0 q5 0 hr _ _ ls hV hS (lv_sub hl [2, 1, 0] rfl)
set_option maxHeartbeats 4000000 in
set_option maxRecDepth 100000 in
theorem c_X5_separate (l : Launch) (G : LG) (b0 : Nat) (V : St) (res : St) (hr : f_X5_separate V = some res) : Met l yX5_separate (wy yX5_separate cX5_separate 2 none) (rm 0) (va_Pc [.ref (b0 + 190)] (Iv G b0 V)) (QV G b0 res) 0 0 (Ab b0) := by
  refine mk_m (by decide +kernel) (Nat.le_of_ble_eq_true rfl) ?_
  intro p e s m below meth c C hV hS ls hl
  obtain ⟨args, hargs⟩ : ∃ z, z = ([.ref (b0 + 190)] : List Value).toArray := ⟨_, rfl⟩
  rw [← hargs] at C ⊢
  obtain ⟨hx, hb, hrt, hml, hown, hts, hlocks, hK, hSv⟩ := id C
  have hl : lv_has ls 2 [(0, .ref (b0 + 190))] := hl
  have K_2 : ∀ (n : Nat) (V : St) (x1 : Int32), f_X5_separate_b2 n V x1 = some res → ∀ (H : Heap) (locs : List Loc) (ls : Array Slot), Hd G b0 V H → va_S (Ab b0) s.heap H locs → lv_has ls 2 [(0, .ref (b0 + 190)), (1, .int x1)] → W p l e (rm 0) s m args below meth c H locs 0 0 (MQ below (QV G b0 res) args s 0 0 (Ab b0)) (F0 m 2 ls []) := by
    intro  n
    induction n with
    | zero =>
      intro V x1 hr
      rw [f_X5_separate_b2] at hr
      cases hr
    | succ n ih =>
      intro V x1 hr H locs ls hV hS hl
      rw [f_X5_separate_b2] at hr
      refine lv_iload_n hx hb dX5_separate_2 rfl (lv_at hl 1 rfl) ?_
      refine lv_bipush (v := 24) hx hb dX5_separate_3 (by decide) ?_
      refine lv_icmp_ge (tgt := 21) hx hb dX5_separate_5 (by decide) (fun b_1 => ?_) (fun b_1 => ?_)
      · have hr := it b_1 hr
        exact fin_v C hV hS (Option.some.inj hr) dX5_separate_21
      · have hr := ie b_1 hr
        refine lv_aload_n hx hb dX5_separate_8 rfl (lv_at hl 0 rfl) ?_
        refine g_X5_0 C hV q_271 dX5_separate_9 ?_
        refine lv_iload_n hx hb dX5_separate_12 rfl (lv_at hl 1 rfl) ?_
        refine lv_iload_n hx hb dX5_separate_13 rfl (lv_at hl 1 rfl) ?_
        obtain ⟨j2, e2, hr⟩ := ob hr
        refine s_11 (k := 191) (i := x1) (j := j2) (x := x1) C hV hS z_191 e2 dX5_separate_14 (fun H locs hV hS => ?_)
        refine lv_iinc (v := x1 + 1) (lv' := [(1, .int (x1 + 1)), (0, .ref (b0 + 190))]) hx hb dX5_separate_15 hl (k := 1) rfl rfl (by decide) rfl (fun ls hl => ?_)
        refine lv_goto (tgt := 2) hx hb dX5_separate_18 (by decide) ?_
        exact ih _ (x1 + 1) hr _ _ ls hV hS (lv_sub hl [1, 0] rfl)
  unfold f_X5_separate at hr
  refine lv_iconst (v := 0) hx hb dX5_separate_0 (by decide) ?_
  refine lv_istore_n (lv' := [(1, .int 0), (0, .ref (b0 + 190))]) hx hb dX5_separate_1 rfl hl (by decide) rfl (fun ls hl => ?_)
  exact K_2 500 _ 0 hr _ _ ls hV hS (lv_sub hl [1, 0] rfl)
set_option maxHeartbeats 4000000 in
set_option maxRecDepth 100000 in
theorem c_X9_isPlace (l : Launch) (G : LG) (b0 : Nat) (V : St) (x0 : Int32) (res : Int32) (hr : f_X9_isPlace x0 = some res) : Met l yX9_isPlace (wy yX9_isPlace cX9_isPlace 1 (some .boolean)) (rm 0) (va_Pc [.int x0] (Iv G b0 V)) (QI G b0 res V) 0 0 (Ab b0) := by
  refine mk_m (by decide +kernel) (Nat.le_of_ble_eq_true rfl) ?_
  intro p e s m below meth c C hV hS ls hl
  obtain ⟨args, hargs⟩ : ∃ z, z = ([.int x0] : List Value).toArray := ⟨_, rfl⟩
  rw [← hargs] at C ⊢
  obtain ⟨hx, hb, hrt, hml, hown, hts, hlocks, hK, hSv⟩ := id C
  have hl : lv_has ls 1 [(0, .int x0)] := hl
  unfold f_X9_isPlace at hr
  refine lv_iload_n hx hb dX9_isPlace_0 rfl (lv_at hl 0 rfl) ?_
  refine lv_if_lt (tgt := 14) hx hb dX9_isPlace_1 (by decide) (fun b_1 => ?_) (fun b_1 => ?_)
  · have hr := it b_1 hr
    refine lv_iconst (v := 0) hx hb dX9_isPlace_14 (by decide) ?_
    exact fin_z C hV hS (by decide) (Option.some.inj hr) dX9_isPlace_15
  · have hr := ie b_1 hr
    refine lv_iload_n hx hb dX9_isPlace_4 rfl (lv_at hl 0 rfl) ?_
    refine lv_bipush (v := 24) hx hb dX9_isPlace_5 (by decide) ?_
    refine lv_icmp_ge (tgt := 14) hx hb dX9_isPlace_7 (by decide) (fun b_2 => ?_) (fun b_2 => ?_)
    · have hr := it b_2 hr
      refine lv_iconst (v := 0) hx hb dX9_isPlace_14 (by decide) ?_
      exact fin_z C hV hS (by decide) (Option.some.inj hr) dX9_isPlace_15
    · have hr := ie b_2 hr
      refine lv_iconst (v := 1) hx hb dX9_isPlace_10 (by decide) ?_
      refine lv_goto (tgt := 15) hx hb dX9_isPlace_11 (by decide) ?_
      exact fin_z C hV hS (by decide) (Option.some.inj hr) dX9_isPlace_15
set_option maxHeartbeats 4000000 in
set_option maxRecDepth 100000 in
theorem c_X5_join (l : Launch) (G : LG) (b0 : Nat) (V : St) (x1 : Int32) (x2 : Int32) (res : Int32 × St) (hr : f_X5_join V x1 x2 = some res) : Met l yX5_join (wy yX5_join cX5_join 6 (some .boolean)) (rm 1) (va_Pc [.ref (b0 + 190), .int x1, .int x2] (Iv G b0 V)) (QI G b0 res.1 res.2) 0 0 (Ab b0) := by
  refine mk_m (by decide +kernel) (Nat.le_of_ble_eq_true rfl) ?_
  intro p e s m below meth c C hV hS ls hl
  obtain ⟨args, hargs⟩ : ∃ z, z = ([.ref (b0 + 190), .int x1, .int x2] : List Value).toArray := ⟨_, rfl⟩
  rw [← hargs] at C ⊢
  obtain ⟨hx, hb, hrt, hml, hown, hts, hlocks, hK, hSv⟩ := id C
  have hl : lv_has ls 6 [(0, .ref (b0 + 190)), (1, .int x1), (2, .int x2)] := hl
  have K_76 : ∀ (c_49 : St → Int32 → Int32 → Int32 → Option (Int32 × St)) (hc_49 : ∀ (V : St) (x3 : Int32) (x4 : Int32) (x5 : Int32), c_49 V x3 x4 x5 = some res → ∀ (H : Heap) (locs : List Loc) (ls : Array Slot), Hd G b0 V H → va_S (Ab b0) s.heap H locs → lv_has ls 6 [(0, .ref (b0 + 190)), (3, .int x3), (4, .int x4), (5, .int x5)] → W p l e (rm 1) s m args below meth c H locs 0 0 (MQ below (QI G b0 res.1 res.2) args s 0 0 (Ab b0)) (F0 m 49 ls [])) (V : St) (x3 : Int32) (x4 : Int32) (x5 : Int32), f_X5_join_b76 c_49 V x3 x4 x5 = some res → ∀ (H : Heap) (locs : List Loc) (ls : Array Slot), Hd G b0 V H → va_S (Ab b0) s.heap H locs → lv_has ls 6 [(0, .ref (b0 + 190)), (3, .int x3), (4, .int x4), (5, .int x5)] → W p l e (rm 1) s m args below meth c H locs 0 0 (MQ below (QI G b0 res.1 res.2) args s 0 0 (Ab b0)) (F0 m 76 ls []) := by
    intro c_49 hc_49 V x3 x4 x5 hr H locs ls hV hS hl
    unfold f_X5_join_b76 at hr
    refine lv_iinc (v := x5 + 1) (lv' := [(5, .int (x5 + 1)), (0, .ref (b0 + 190)), (3, .int x3), (4, .int x4)]) hx hb dX5_join_76 hl (k := 3) rfl rfl (by decide) rfl (fun ls hl => ?_)
    refine lv_goto (tgt := 49) hx hb dX5_join_79 (by decide) ?_
    exact hc_49 _ x3 x4 (x5 + 1) hr _ _ ls hV hS (lv_sub hl [1, 2, 3, 0] rfl)
  have K_49 : ∀ (n : Nat) (V : St) (x3 : Int32) (x4 : Int32) (x5 : Int32), f_X5_join_b49 n V x3 x4 x5 = some res → ∀ (H : Heap) (locs : List Loc) (ls : Array Slot), Hd G b0 V H → va_S (Ab b0) s.heap H locs → lv_has ls 6 [(0, .ref (b0 + 190)), (3, .int x3), (4, .int x4), (5, .int x5)] → W p l e (rm 1) s m args below meth c H locs 0 0 (MQ below (QI G b0 res.1 res.2) args s 0 0 (Ab b0)) (F0 m 49 ls []) := by
    intro  n
    induction n with
    | zero =>
      intro V x3 x4 x5 hr
      rw [f_X5_join_b49] at hr
      cases hr
    | succ n ih =>
      intro V x3 x4 x5 hr H locs ls hV hS hl
      rw [f_X5_join_b49] at hr
      refine lv_iload hx hb dX5_join_49 (lv_at hl 3 rfl) ?_
      refine lv_bipush (v := 24) hx hb dX5_join_51 (by decide) ?_
      refine lv_icmp_ge (tgt := 82) hx hb dX5_join_53 (by decide) (fun b_1 => ?_) (fun b_1 => ?_)
      · have hr := it b_1 hr
        refine lv_iconst (v := 1) hx hb dX5_join_82 (by decide) ?_
        rw [← Option.some.inj hr]
        exact fin_z C hV hS (by decide) rfl dX5_join_83
      · have hr := ie b_1 hr
        refine lv_aload_n hx hb dX5_join_56 rfl (lv_at hl 0 rfl) ?_
        refine g_X5_0 C hV q_271 dX5_join_57 ?_
        refine lv_iload hx hb dX5_join_60 (lv_at hl 3 rfl) ?_
        obtain ⟨j2, e2, hr⟩ := ob hr
        refine a_11 (k := 191) (i := x5) (j := j2) C hV z_191 e2 dX5_join_62 ?_
        refine lv_iload hx hb dX5_join_63 (lv_at hl 2 rfl) ?_
        refine lv_icmp_ne (tgt := 76) hx hb dX5_join_65 (by decide) (fun b_3 => ?_) (fun b_3 => ?_)
        · have hr := ie b_3 hr
          exact K_76 (fun V x3 x4 x5 => f_X5_join_b49 n V x3 x4 x5) (fun V x3 x4 x5 hr => ih V x3 x4 x5 hr) _ x3 x4 x5 hr _ _ ls hV hS (lv_sub hl [0, 1, 2, 3] rfl)
        · have hr := it b_3 hr
          refine lv_aload_n hx hb dX5_join_68 rfl (lv_at hl 0 rfl) ?_
          refine g_X5_0 C hV q_271 dX5_join_69 ?_
          refine lv_iload hx hb dX5_join_72 (lv_at hl 3 rfl) ?_
          refine lv_iload_n hx hb dX5_join_74 rfl (lv_at hl 1 rfl) ?_
          obtain ⟨j4, e4, hr⟩ := ob hr
          refine s_11 (k := 191) (i := x5) (j := j4) (x := x3) C hV hS z_191 e4 dX5_join_75 (fun H locs hV hS => ?_)
          exact K_76 (fun V x3 x4 x5 => f_X5_join_b49 n V x3 x4 x5) (fun V x3 x4 x5 hr => ih V x3 x4 x5 hr) _ x3 x4 x5 hr _ _ ls hV hS (lv_sub hl [0, 1, 2, 3] rfl)
  unfold f_X5_join at hr
  refine lv_iload_n hx hb dX5_join_0 rfl (lv_at hl 1 rfl) ?_
  obtain ⟨q5, e5, hr⟩ := ob hr
  refine cal_i (run_SN (As := [.int x1]) (rest := []) C hV hS (c_X9_isPlace l G b0 V x1 q5 e5) q_1422 q_617 q_93 q_618 dk_X9_isPlace (rm_ok (by decide) (by decide)) hl.1 rfl (Nat.le_of_ble_eq_true rfl) dX5_join_1 ⟨Nat.zero_le _, Nat.zero_le _⟩) hS (fun H locs hV hS => ?_)
  refine lv_if_eq (tgt := 29) hx hb dX5_join_4 (by decide) (fun b_6 => ?_) (fun b_6 => ?_)
  · have hr := it b_6 hr
    refine lv_iconst (v := 0) hx hb dX5_join_29 (by decide) ?_
    rw [← Option.some.inj hr]
    exact fin_z C hV hS (by decide) rfl dX5_join_30
  · have hr := ie b_6 hr
    refine lv_iload_n hx hb dX5_join_7 rfl (lv_at hl 2 rfl) ?_
    obtain ⟨q7, e7, hr⟩ := ob hr
    refine cal_i (run_SN (As := [.int x2]) (rest := []) C hV hS (c_X9_isPlace l G b0 V x2 q7 e7) q_1422 q_617 q_93 q_618 dk_X9_isPlace (rm_ok (by decide) (by decide)) hl.1 rfl (Nat.le_of_ble_eq_true rfl) dX5_join_8 ⟨Nat.zero_le _, Nat.zero_le _⟩) hS (fun H locs hV hS => ?_)
    refine lv_if_eq (tgt := 29) hx hb dX5_join_11 (by decide) (fun b_8 => ?_) (fun b_8 => ?_)
    · have hr := it b_8 hr
      refine lv_iconst (v := 0) hx hb dX5_join_29 (by decide) ?_
      rw [← Option.some.inj hr]
      exact fin_z C hV hS (by decide) rfl dX5_join_30
    · have hr := ie b_8 hr
      refine lv_aload_n hx hb dX5_join_14 rfl (lv_at hl 0 rfl) ?_
      refine g_X5_0 C hV q_271 dX5_join_15 ?_
      refine lv_iload_n hx hb dX5_join_18 rfl (lv_at hl 1 rfl) ?_
      obtain ⟨j9, e9, hr⟩ := ob hr
      refine a_11 (k := 191) (i := x1) (j := j9) C hV z_191 e9 dX5_join_19 ?_
      refine lv_aload_n hx hb dX5_join_20 rfl (lv_at hl 0 rfl) ?_
      refine g_X5_0 C hV q_271 dX5_join_21 ?_
      refine lv_iload_n hx hb dX5_join_24 rfl (lv_at hl 2 rfl) ?_
      obtain ⟨j10, e10, hr⟩ := ob hr
      refine a_11 (k := 191) (i := x2) (j := j10) C hV z_191 e10 dX5_join_25 ?_
      refine lv_icmp_ne (tgt := 31) hx hb dX5_join_26 (by decide) (fun b_11 => ?_) (fun b_11 => ?_)
      · have hr := ie b_11 hr
        refine lv_aload_n hx hb dX5_join_31 rfl (lv_at hl 0 rfl) ?_
        refine g_X5_0 C hV q_271 dX5_join_32 ?_
        refine lv_iload_n hx hb dX5_join_35 rfl (lv_at hl 1 rfl) ?_
        obtain ⟨j12, e12, hr⟩ := ob hr
        refine a_11 (k := 191) (i := x1) (j := j12) C hV z_191 e12 dX5_join_36 ?_
        refine lv_istore_n (lv' := [(3, .int (V 191 j12)), (0, .ref (b0 + 190)), (1, .int x1), (2, .int x2)]) hx hb dX5_join_37 rfl hl (by decide) rfl (fun ls hl => ?_)
        refine lv_aload_n hx hb dX5_join_38 rfl (lv_at hl 1 rfl) ?_
        refine g_X5_0 C hV q_271 dX5_join_39 ?_
        refine lv_iload_n hx hb dX5_join_42 rfl (lv_at hl 3 rfl) ?_
        obtain ⟨j13, e13, hr⟩ := ob hr
        refine a_11 (k := 191) (i := x2) (j := j13) C hV z_191 e13 dX5_join_43 ?_
        refine lv_istore (lv' := [(4, .int (V 191 j13)), (3, .int (V 191 j12)), (0, .ref (b0 + 190)), (1, .int x1), (2, .int x2)]) hx hb dX5_join_44 hl (by decide) rfl (fun ls hl => ?_)
        refine lv_iconst (v := 0) hx hb dX5_join_46 (by decide) ?_
        refine lv_istore (lv' := [(5, .int 0), (4, .int (V 191 j13)), (3, .int (V 191 j12)), (0, .ref (b0 + 190)), (1, .int x1), (2, .int x2)]) hx hb dX5_join_47 hl (by decide) rfl (fun ls hl => ?_)
        exact K_49 500 _ (V 191 j12) (V 191 j13) 0 hr _ _ ls hV hS (lv_sub hl [3, 2, 1, 0] rfl)
      · have hr := it b_11 hr
        refine lv_iconst (v := 0) hx hb dX5_join_29 (by decide) ?_
        rw [← Option.some.inj hr]
        exact fin_z C hV hS (by decide) rfl dX5_join_30
set_option maxHeartbeats 4000000 in
set_option maxRecDepth 100000 in
theorem c_X5_joinAll (l : Launch) (G : LG) (b0 : Nat) (V : St) (x1 : Int32) (x2 : Int32) (res : Int32 × St) (hr : f_X5_joinAll V x1 x2 = some res) : Met l yX5_joinAll (wy yX5_joinAll cX5_joinAll 5 (some .int)) (rm 2) (va_Pc [.ref (b0 + 190), .int x1, .int x2] (Iv G b0 V)) (QI G b0 res.1 res.2) 0 0 (Ab b0) := by
  refine mk_m (by decide +kernel) (Nat.le_of_ble_eq_true rfl) ?_
  intro p e s m below meth c C hV hS ls hl
  obtain ⟨args, hargs⟩ : ∃ z, z = ([.ref (b0 + 190), .int x1, .int x2] : List Value).toArray := ⟨_, rfl⟩
  rw [← hargs] at C ⊢
  obtain ⟨hx, hb, hrt, hml, hown, hts, hlocks, hK, hSv⟩ := id C
  have hl : lv_has ls 5 [(0, .ref (b0 + 190)), (1, .int x1), (2, .int x2)] := hl
  have K_37 : ∀ (c_5 : St → Int32 → Int32 → Int32 → Int32 → Option (Int32 × St)) (hc_5 : ∀ (V : St) (x1 : Int32) (x2 : Int32) (x3 : Int32) (x4 : Int32), c_5 V x1 x2 x3 x4 = some res → ∀ (H : Heap) (locs : List Loc) (ls : Array Slot), Hd G b0 V H → va_S (Ab b0) s.heap H locs → lv_has ls 5 [(0, .ref (b0 + 190)), (1, .int x1), (2, .int x2), (3, .int x3), (4, .int x4)] → W p l e (rm 2) s m args below meth c H locs 0 0 (MQ below (QI G b0 res.1 res.2) args s 0 0 (Ab b0)) (F0 m 5 ls [])) (V : St) (x1 : Int32) (x2 : Int32) (x3 : Int32) (x4 : Int32), f_X5_joinAll_b37 c_5 V x1 x2 x3 x4 = some res → ∀ (H : Heap) (locs : List Loc) (ls : Array Slot), Hd G b0 V H → va_S (Ab b0) s.heap H locs → lv_has ls 5 [(0, .ref (b0 + 190)), (1, .int x1), (2, .int x2), (3, .int x3), (4, .int x4)] → W p l e (rm 2) s m args below meth c H locs 0 0 (MQ below (QI G b0 res.1 res.2) args s 0 0 (Ab b0)) (F0 m 37 ls []) := by
    intro c_5 hc_5 V x1 x2 x3 x4 hr H locs ls hV hS hl
    unfold f_X5_joinAll_b37 at hr
    refine lv_iinc (v := x4 + 1) (lv' := [(4, .int (x4 + 1)), (0, .ref (b0 + 190)), (1, .int x1), (2, .int x2), (3, .int x3)]) hx hb dX5_joinAll_37 hl (k := 4) rfl rfl (by decide) rfl (fun ls hl => ?_)
    refine lv_goto (tgt := 5) hx hb dX5_joinAll_40 (by decide) ?_
    exact hc_5 _ x1 x2 x3 (x4 + 1) hr _ _ ls hV hS (lv_sub hl [1, 2, 3, 4, 0] rfl)
  have K_5 : ∀ (n : Nat) (V : St) (x1 : Int32) (x2 : Int32) (x3 : Int32) (x4 : Int32), f_X5_joinAll_b5 n V x1 x2 x3 x4 = some res → ∀ (H : Heap) (locs : List Loc) (ls : Array Slot), Hd G b0 V H → va_S (Ab b0) s.heap H locs → lv_has ls 5 [(0, .ref (b0 + 190)), (1, .int x1), (2, .int x2), (3, .int x3), (4, .int x4)] → W p l e (rm 2) s m args below meth c H locs 0 0 (MQ below (QI G b0 res.1 res.2) args s 0 0 (Ab b0)) (F0 m 5 ls []) := by
    intro  n
    induction n with
    | zero =>
      intro V x1 x2 x3 x4 hr
      rw [f_X5_joinAll_b5] at hr
      cases hr
    | succ n ih =>
      intro V x1 x2 x3 x4 hr H locs ls hV hS hl
      rw [f_X5_joinAll_b5] at hr
      refine lv_iload hx hb dX5_joinAll_5 (lv_at hl 4 rfl) ?_
      refine lv_bipush (v := 24) hx hb dX5_joinAll_7 (by decide) ?_
      refine lv_icmp_ge (tgt := 43) hx hb dX5_joinAll_9 (by decide) (fun b_1 => ?_) (fun b_1 => ?_)
      · have hr := it b_1 hr
        refine lv_iload_n hx hb dX5_joinAll_43 rfl (lv_at hl 3 rfl) ?_
        rw [← Option.some.inj hr]
        exact fin_i C hV hS rfl dX5_joinAll_44
      · have hr := ie b_1 hr
        refine lv_iload_n hx hb dX5_joinAll_12 rfl (lv_at hl 1 rfl) ?_
        refine lv_iload hx hb dX5_joinAll_13 (lv_at hl 4 rfl) ?_
        obtain ⟨q2, e2, hr⟩ := ob hr
        refine cal_i (run_SN (As := [.int x1, .int x4]) (rest := []) C hV hS (c_X9_isIn l G b0 V x1 x4 q2 e2) q_1417 q_624 q_93 q_625 dk_X9_isIn (rm_ok (by decide) (by decide)) hl.1 rfl (Nat.le_of_ble_eq_true rfl) dX5_joinAll_15 ⟨Nat.zero_le _, Nat.zero_le _⟩) hS (fun H locs hV hS => ?_)
        refine lv_if_eq (tgt := 37) hx hb dX5_joinAll_18 (by decide) (fun b_3 => ?_) (fun b_3 => ?_)
        · have hr := it b_3 hr
          exact K_37 (fun V x1 x2 x3 x4 => f_X5_joinAll_b5 n V x1 x2 x3 x4) (fun V x1 x2 x3 x4 hr => ih V x1 x2 x3 x4 hr) _ x1 x2 x3 x4 hr _ _ ls hV hS (lv_sub hl [0, 1, 2, 3, 4] rfl)
        · have hr := ie b_3 hr
          refine lv_aload_n hx hb dX5_joinAll_21 rfl (lv_at hl 0 rfl) ?_
          refine lv_iload hx hb dX5_joinAll_22 (lv_at hl 4 rfl) ?_
          refine lv_iload hx hb dX5_joinAll_24 (lv_at hl 4 rfl) ?_
          refine lv_iload_n hx hb dX5_joinAll_26 rfl (lv_at hl 2 rfl) ?_
          refine lv_iadd hx hb dX5_joinAll_27 ?_
          obtain ⟨q4, e4, hr⟩ := ob hr
          refine cal_i (run_V (As := [.int x4, .int (x4 + x2)]) (rest := []) C hV hS (c_X5_join l G b0 V x4 (x4 + x2) q4 e4) (rcv hK hV (kd_lt z_190 (by decide)) (cel_10 z_190) rfl) q_1418 q_1420 q_80 q_99 q_1421 dk_X5_join (rm_ok (by decide) (by decide)) hl.1 rfl (Nat.le_of_ble_eq_true rfl) dX5_joinAll_28 ⟨Nat.zero_le _, Nat.zero_le _⟩) hS (fun H locs hV hS => ?_)
          refine lv_if_eq (tgt := 37) hx hb dX5_joinAll_31 (by decide) (fun b_5 => ?_) (fun b_5 => ?_)
          · have hr := it b_5 hr
            exact K_37 (fun V x1 x2 x3 x4 => f_X5_joinAll_b5 n V x1 x2 x3 x4) (fun V x1 x2 x3 x4 hr => ih V x1 x2 x3 x4 hr) _ x1 x2 x3 x4 hr _ _ ls hV hS (lv_sub hl [0, 1, 2, 3, 4] rfl)
          · have hr := ie b_5 hr
            refine lv_iinc (v := x3 + 1) (lv' := [(3, .int (x3 + 1)), (0, .ref (b0 + 190)), (1, .int x1), (2, .int x2), (4, .int x4)]) hx hb dX5_joinAll_34 hl (k := 3) rfl rfl (by decide) rfl (fun ls hl => ?_)
            exact K_37 (fun V x1 x2 x3 x4 => f_X5_joinAll_b5 n V x1 x2 x3 x4) (fun V x1 x2 x3 x4 hr => ih V x1 x2 x3 x4 hr) _ x1 x2 (x3 + 1) x4 hr _ _ ls hV hS (lv_sub hl [1, 2, 3, 0, 4] rfl)
  unfold f_X5_joinAll at hr
  refine lv_iconst (v := 0) hx hb dX5_joinAll_0 (by decide) ?_
  refine lv_istore_n (lv' := [(3, .int 0), (0, .ref (b0 + 190)), (1, .int x1), (2, .int x2)]) hx hb dX5_joinAll_1 rfl hl (by decide) rfl (fun ls hl => ?_)
  refine lv_iconst (v := 0) hx hb dX5_joinAll_2 (by decide) ?_
  refine lv_istore (lv' := [(4, .int 0), (3, .int 0), (0, .ref (b0 + 190)), (1, .int x1), (2, .int x2)]) hx hb dX5_joinAll_3 hl (by decide) rfl (fun ls hl => ?_)
  exact K_5 500 _ x1 x2 0 0 hr _ _ ls hV hS (lv_sub hl [2, 3, 4, 1, 0] rfl)
