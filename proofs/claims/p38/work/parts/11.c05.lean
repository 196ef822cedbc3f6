set_option maxHeartbeats 4000000 in
set_option maxRecDepth 100000 in
theorem c_X8_addNote (l : Launch) (G : LG) (b0 : Nat) (V : St) (k0 : Nat) (hk0 : kd k0 = 1) (x1 : Int32) (x2 : Int32) (res : St) (hr : f_X8_addNote V k0 x1 x2 = some res) : Met l yX8_addNote (wy yX8_addNote cX8_addNote 6 none) (rm 2) (va_Pc [.ref (b0 + k0), .int x1, .int x2] (Iv G b0 V)) (QV G b0 res) 0 0 (Ab b0) := by
  refine mk_m (by decide +kernel) (Nat.le_of_ble_eq_true rfl) ?_
  intro p e s m below meth c C hV hS ls hl
  obtain ⟨args, hargs⟩ : ∃ z, z = ([.ref (b0 + k0), .int x1, .int x2] : List Value).toArray := ⟨_, rfl⟩
  rw [← hargs] at C ⊢
  obtain ⟨hx, hb, hrt, hml, hown, hts, hlocks, hK, hSv⟩ := id C
  have hl : lv_has ls 6 [(0, .ref (b0 + k0)), (1, .int x1), (2, .int x2)] := hl
  unfold f_X8_addNote at hr
  refine lv_aload_n hx hb dX8_addNote_0 rfl (lv_at hl 0 rfl) ?_
  refine lv_iload_n hx hb dX8_addNote_1 rfl (lv_at hl 1 rfl) ?_
  obtain ⟨q1, e1, hr⟩ := ob hr
  refine cal_r (run_V (As := [.int x1]) (rest := []) C hV hS (c_X8_netNumbered l G b0 V k0 hk0 x1 q1 e1) (rcv hK hV (kd_lt hk0 (by decide)) (cel_1 hk0) rfl) q_534 q_485 q_1 q_94 q_486 dk_X8_netNumbered (rm_ok (by decide) (by decide)) hl.1 rfl (Nat.le_of_ble_eq_true rfl) dX8_addNote_2 ⟨Nat.zero_le _, Nat.zero_le _⟩) hS (fun H locs hV hS => ?_)
  refine lv_astore_n (lv' := [(3, .ref (b0 + q1)), (0, .ref (b0 + k0)), (1, .int x1), (2, .int x2)]) hx hb dX8_addNote_5 rfl hl (by decide) rfl (fun ls hl => ?_)
  refine lv_aload_n hx hb dX8_addNote_6 rfl (lv_at hl 0 rfl) ?_
  refine lv_iload_n hx hb dX8_addNote_7 rfl (lv_at hl 3 rfl) ?_
  obtain ⟨q2, e2, hr⟩ := ob hr
  refine cal_i (run_VN (As := [.int x2]) (rest := []) C hV hS (c_X3_chapterAt l G b0 V q1 (kr_X8_netNumbered hk0 e1) x2 q2 e2) (rcv hK hV (kd_lt (kr_X8_netNumbered hk0 e1) (by decide)) (cel_5 (kr_X8_netNumbered hk0 e1)) rfl) q_576 q_507 q_4 q_95 q_508 dk_X3_chapterAt (rm_ok (by decide) (by decide)) hl.1 rfl (Nat.le_of_ble_eq_true rfl) dX8_addNote_8 ⟨Nat.zero_le _, Nat.zero_le _⟩) hS (fun H locs hV hS => ?_)
  refine lv_istore (lv' := [(4, .int q2), (3, .ref (b0 + q1)), (0, .ref (b0 + k0)), (1, .int x1), (2, .int x2)]) hx hb dX8_addNote_11 hl (by decide) rfl (fun ls hl => ?_)
  refine lv_aload_n hx hb dX8_addNote_13 rfl (lv_at hl 2 rfl) ?_
  refine lv_aload_n hx hb dX8_addNote_14 rfl (lv_at hl 2 rfl) ?_
  refine g_X8_4 (k := k0) C hV hk0 q_216 dX8_addNote_15 ?_
  obtain ⟨q3, e3, hr⟩ := ob hr
  refine cal_r (run_V (As := [.int (V k0 4)]) (rest := []) C hV hS (c_X8_noteNumbered l G b0 V k0 hk0 (V k0 4) q3 e3) (rcv hK hV (kd_lt hk0 (by decide)) (cel_1 hk0) rfl) q_563 q_565 q_14 q_94 q_566 dk_X8_noteNumbered (rm_ok (by decide) (by decide)) hl.1 rfl (Nat.le_of_ble_eq_true rfl) dX8_addNote_18 ⟨Nat.zero_le _, Nat.zero_le _⟩) hS (fun H locs hV hS => ?_)
  refine lv_astore (lv' := [(5, .ref (b0 + q3)), (4, .int q2), (3, .ref (b0 + q1)), (0, .ref (b0 + k0)), (1, .int x1), (2, .int x2)]) hx hb dX8_addNote_21 hl (by decide) rfl (fun ls hl => ?_)
  refine lv_aload hx hb dX8_addNote_23 (lv_at hl 0 rfl) ?_
  refine lv_iload_n hx hb dX8_addNote_25 rfl (lv_at hl 4 rfl) ?_
  refine pn_X4_0 (k := q3) (x := x1) C hV hS (kr_X8_noteNumbered hk0 e3) q_196 dX8_addNote_26 (fun H locs hV hS => ?_)
  refine lv_aload hx hb dX8_addNote_29 (lv_at hl 0 rfl) ?_
  refine lv_aload_n hx hb dX8_addNote_31 rfl (lv_at hl 2 rfl) ?_
  refine gn_X3_0 (k := q1) C hV (kr_X8_netNumbered hk0 e1) q_152 dX8_addNote_32 ?_
  refine lv_iload hx hb dX8_addNote_35 (lv_at hl 1 rfl) ?_
  refine lv_iand hx hb dX8_addNote_37 ?_
  refine pn_X4_1 (k := q3) (x := (((up V q3 0 x1) q1 0) &&& q2)) C hV hS (kr_X8_noteNumbered hk0 e3) q_199 dX8_addNote_38 (fun H locs hV hS => ?_)
  refine lv_aload hx hb dX8_addNote_41 (lv_at hl 0 rfl) ?_
  refine lv_aload_n hx hb dX8_addNote_43 rfl (lv_at hl 2 rfl) ?_
  refine gn_X3_1 (k := q1) C hV (kr_X8_netNumbered hk0 e1) q_156 dX8_addNote_44 ?_
  refine lv_iload hx hb dX8_addNote_47 (lv_at hl 1 rfl) ?_
  refine lv_iand hx hb dX8_addNote_49 ?_
  refine pn_X4_2 (k := q3) (x := (((up (up V q3 0 x1) q3 1 (((up V q3 0 x1) q1 0) &&& q2)) q1 1) &&& q2)) C hV hS (kr_X8_noteNumbered hk0 e3) q_202 dX8_addNote_50 (fun H locs hV hS => ?_)
  refine lv_aload_n hx hb dX8_addNote_53 rfl (lv_at hl 3 rfl) ?_
  refine lv_dup hx hb dX8_addNote_54 rfl ?_
  refine g_X8_4 (k := k0) C hV hk0 q_216 dX8_addNote_55 ?_
  refine lv_iconst (v := 1) hx hb dX8_addNote_58 (by decide) ?_
  refine lv_iadd hx hb dX8_addNote_59 ?_
  refine p_X8_4 (k := k0) (x := (((up (up (up V q3 0 x1) q3 1 (((up V q3 0 x1) q1 0) &&& q2)) q3 2 (((up (up V q3 0 x1) q3 1 (((up V q3 0 x1) q1 0) &&& q2)) q1 1) &&& q2)) k0 4) + 1)) C hV hS hk0 q_216 dX8_addNote_60 (fun H locs hV hS => ?_)
  exact fin_v C hV hS (Option.some.inj hr) dX8_addNote_63
set_option maxHeartbeats 4000000 in
set_option maxRecDepth 100000 in
theorem c_X8_removeNote (l : Launch) (G : LG) (b0 : Nat) (V : St) (k0 : Nat) (hk0 : kd k0 = 1) (x1 : Int32) (res : St) (hr : f_X8_removeNote V k0 x1 = some res) : Met l yX8_removeNote (wy yX8_removeNote cX8_removeNote 3 none) (rm 1) (va_Pc [.ref (b0 + k0), .int x1] (Iv G b0 V)) (QV G b0 res) 0 0 (Ab b0) := by
  refine mk_m (by decide +kernel) (Nat.le_of_ble_eq_true rfl) ?_
  intro p e s m below meth c C hV hS ls hl
  obtain ⟨args, hargs⟩ : ∃ z, z = ([.ref (b0 + k0), .int x1] : List Value).toArray := ⟨_, rfl⟩
  rw [← hargs] at C ⊢
  obtain ⟨hx, hb, hrt, hml, hown, hts, hlocks, hK, hSv⟩ := id C
  have hl : lv_has ls 3 [(0, .ref (b0 + k0)), (1, .int x1)] := hl
  have K_2 : ∀ (n : Nat) (V : St) (k0 : Nat) (hk0 : kd k0 = 1) (x2 : Int32), f_X8_removeNote_b2 n V k0 x2 = some res → ∀ (H : Heap) (locs : List Loc) (ls : Array Slot), Hd G b0 V H → va_S (Ab b0) s.heap H locs → lv_has ls 3 [(0, .ref (b0 + k0)), (2, .int x2)] → W p l e (rm 1) s m args below meth c H locs 0 0 (MQ below (QV G b0 res) args s 0 0 (Ab b0)) (F0 m 2 ls []) := by
    intro  n
    induction n with
    | zero =>
      intro V k0 hk0 x2 hr
      rw [f_X8_removeNote_b2] at hr
      cases hr
    | succ n ih =>
      intro V k0 hk0 x2 hr H locs ls hV hS hl
      rw [f_X8_removeNote_b2] at hr
      refine lv_iload_n hx hb dX8_removeNote_2 rfl (lv_at hl 1 rfl) ?_
      refine lv_aload_n hx hb dX8_removeNote_3 rfl (lv_at hl 0 rfl) ?_
      refine g_X8_4 (k := k0) C hV hk0 q_216 dX8_removeNote_4 ?_
      refine lv_iconst (v := 1) hx hb dX8_removeNote_7 (by decide) ?_
      refine lv_isub hx hb dX8_removeNote_8 ?_
      refine lv_icmp_ge (tgt := 33) hx hb dX8_removeNote_9 (by decide) (fun b_1 => ?_) (fun b_1 => ?_)
      · have hr := it b_1 hr
        refine lv_aload_n hx hb dX8_removeNote_33 rfl (lv_at hl 0 rfl) ?_
        refine lv_dup hx hb dX8_removeNote_34 rfl ?_
        refine g_X8_4 (k := k0) C hV hk0 q_216 dX8_removeNote_35 ?_
        refine lv_iconst (v := 1) hx hb dX8_removeNote_38 (by decide) ?_
        refine lv_isub hx hb dX8_removeNote_39 ?_
        refine p_X8_4 (k := k0) (x := ((V k0 4) - 1)) C hV hS hk0 q_216 dX8_removeNote_40 (fun H locs hV hS => ?_)
        exact fin_v C hV hS (Option.some.inj hr) dX8_removeNote_43
      · have hr := ie b_1 hr
        refine lv_aload_n hx hb dX8_removeNote_12 rfl (lv_at hl 0 rfl) ?_
        refine lv_iload_n hx hb dX8_removeNote_13 rfl (lv_at hl 1 rfl) ?_
        obtain ⟨q2, e2, hr⟩ := ob hr
        refine cal_r (run_V (As := [.int x2]) (rest := []) C hV hS (c_X8_noteNumbered l G b0 V k0 hk0 x2 q2 e2) (rcv hK hV (kd_lt hk0 (by decide)) (cel_1 hk0) rfl) q_563 q_565 q_14 q_94 q_566 dk_X8_noteNumbered (rm_ok (by decide) (by decide)) hl.1 rfl (Nat.le_of_ble_eq_true rfl) dX8_removeNote_14 ⟨Nat.zero_le _, Nat.zero_le _⟩) hS (fun H locs hV hS => ?_)
        refine lv_aload_n hx hb dX8_removeNote_17 rfl (lv_at hl 0 rfl) ?_
        refine lv_iload_n hx hb dX8_removeNote_18 rfl (lv_at hl 1 rfl) ?_
        refine lv_iconst (v := 1) hx hb dX8_removeNote_19 (by decide) ?_
        refine lv_iadd hx hb dX8_removeNote_20 ?_
        obtain ⟨q3, e3, hr⟩ := ob hr
        refine cal_r (run_V (As := [.int (x2 + 1)]) (rest := [.ref (b0 + q2)]) C hV hS (c_X8_noteNumbered l G b0 V k0 hk0 (x2 + 1) q3 e3) (rcv hK hV (kd_lt hk0 (by decide)) (cel_1 hk0) rfl) q_563 q_565 q_14 q_94 q_566 dk_X8_noteNumbered (rm_ok (by decide) (by decide)) hl.1 rfl (Nat.le_of_ble_eq_true rfl) dX8_removeNote_21 ⟨Nat.zero_le _, Nat.zero_le _⟩) hS (fun H locs hV hS => ?_)
        obtain ⟨q4, e4, hr⟩ := ob hr
        refine cal_v (run_VN (As := [.ref (b0 + q3)]) (rest := []) C hV hS (c_X4_copyFrom l G b0 V q2 (kr_X8_noteNumbered hk0 e2) q3 (kr_X8_noteNumbered hk0 e3) q4 e4) (rcv hK hV (kd_lt (kr_X8_noteNumbered hk0 e2) (by decide)) (cel_7 (kr_X8_noteNumbered hk0 e2)) rfl) q_669 q_671 q_27 q_97 q_672 dk_X4_copyFrom (rm_ok (by decide) (by decide)) hl.1 rfl (Nat.le_of_ble_eq_true rfl) dX8_removeNote_24 ⟨Nat.zero_le _, Nat.zero_le _⟩) hS (fun H locs hV hS => ?_)
        refine lv_iinc (v := x2 + 1) (lv' := [(2, .int (x2 + 1)), (0, .ref (b0 + k0))]) hx hb dX8_removeNote_27 hl (k := 1) rfl rfl (by decide) rfl (fun ls hl => ?_)
        refine lv_goto (tgt := 2) hx hb dX8_removeNote_30 (by decide) ?_
        exact ih _ k0 hk0 (x2 + 1) hr _ _ ls hV hS (lv_sub hl [1, 0] rfl)
  unfold f_X8_removeNote at hr
  refine lv_iload_n hx hb dX8_removeNote_0 rfl (lv_at hl 1 rfl) ?_
  refine lv_istore_n (lv' := [(2, .int x1), (0, .ref (b0 + k0)), (1, .int x1)]) hx hb dX8_removeNote_1 rfl hl (by decide) rfl (fun ls hl => ?_)
  exact K_2 500 _ k0 hk0 x1 hr _ _ ls hV hS (lv_sub hl [1, 0] rfl)
set_option maxHeartbeats 4000000 in
set_option maxRecDepth 100000 in
theorem c_X8_lowestNoteOf (l : Launch) (G : LG) (b0 : Nat) (V : St) (k0 : Nat) (hk0 : kd k0 = 1) (x1 : Int32) (x2 : Int32) (res : Int32) (hr : f_X8_lowestNoteOf V k0 x1 x2 = some res) : Met l yX8_lowestNoteOf (wy yX8_lowestNoteOf cX8_lowestNoteOf 5 (some .int)) (rm 2) (va_Pc [.ref (b0 + k0), .int x1, .int x2] (Iv G b0 V)) (QI G b0 res V) 0 0 (Ab b0) := by
  refine mk_m (by decide +kernel) (Nat.le_of_ble_eq_true rfl) ?_
  intro p e s m below meth c C hV hS ls hl
  obtain ⟨args, hargs⟩ : ∃ z, z = ([.ref (b0 + k0), .int x1, .int x2] : List Value).toArray := ⟨_, rfl⟩
  rw [← hargs] at C ⊢
  obtain ⟨hx, hb, hrt, hml, hown, hts, hlocks, hK, hSv⟩ := id C
  have hl : lv_has ls 5 [(0, .ref (b0 + k0)), (1, .int x1), (2, .int x2)] := hl
  have K_42 : ∀ (c_2 : St → Nat → Int32 → Int32 → Int32 → Option (Int32)) (hc_2 : ∀ (k0 : Nat) (hk0 : kd k0 = 1) (x1 : Int32) (x2 : Int32) (x3 : Int32), c_2 V k0 x1 x2 x3 = some res → ∀ (H : Heap) (locs : List Loc) (ls : Array Slot), Hd G b0 V H → va_S (Ab b0) s.heap H locs → lv_has ls 5 [(0, .ref (b0 + k0)), (1, .int x1), (2, .int x2), (3, .int x3)] → W p l e (rm 2) s m args below meth c H locs 0 0 (MQ below (QI G b0 res V) args s 0 0 (Ab b0)) (F0 m 2 ls [])) (k0 : Nat) (hk0 : kd k0 = 1) (x1 : Int32) (x2 : Int32) (x3 : Int32), f_X8_lowestNoteOf_b42 c_2 V k0 x1 x2 x3 = some res → ∀ (H : Heap) (locs : List Loc) (ls : Array Slot), Hd G b0 V H → va_S (Ab b0) s.heap H locs → lv_has ls 5 [(0, .ref (b0 + k0)), (1, .int x1), (2, .int x2), (3, .int x3)] → W p l e (rm 2) s m args below meth c H locs 0 0 (MQ below (QI G b0 res V) args s 0 0 (Ab b0)) (F0 m 42 ls []) := by
    intro c_2 hc_2 k0 hk0 x1 x2 x3 hr H locs ls hV hS hl
    unfold f_X8_lowestNoteOf_b42 at hr
    refine lv_iinc (v := x3 + 1) (lv' := [(3, .int (x3 + 1)), (0, .ref (b0 + k0)), (1, .int x1), (2, .int x2)]) hx hb dX8_lowestNoteOf_42 hl (k := 3) rfl rfl (by decide) rfl (fun ls hl => ?_)
    refine lv_goto (tgt := 2) hx hb dX8_lowestNoteOf_45 (by decide) ?_
    exact hc_2 k0 hk0 x1 x2 (x3 + 1) hr _ _ ls hV hS (lv_sub hl [1, 2, 3, 0] rfl)
  have K_2 : ∀ (n : Nat) (k0 : Nat) (hk0 : kd k0 = 1) (x1 : Int32) (x2 : Int32) (x3 : Int32), f_X8_lowestNoteOf_b2 n V k0 x1 x2 x3 = some res → ∀ (H : Heap) (locs : List Loc) (ls : Array Slot), Hd G b0 V H → va_S (Ab b0) s.heap H locs → lv_has ls 5 [(0, .ref (b0 + k0)), (1, .int x1), (2, .int x2), (3, .int x3)] → W p l e (rm 2) s m args below meth c H locs 0 0 (MQ below (QI G b0 res V) args s 0 0 (Ab b0)) (F0 m 2 ls []) := by
    intro  n
    induction n with
    | zero =>
      intro k0 hk0 x1 x2 x3 hr
      rw [f_X8_lowestNoteOf_b2] at hr
      cases hr
    | succ n ih =>
      intro k0 hk0 x1 x2 x3 hr H locs ls hV hS hl
      rw [f_X8_lowestNoteOf_b2] at hr
      refine lv_iload_n hx hb dX8_lowestNoteOf_2 rfl (lv_at hl 3 rfl) ?_
      refine lv_aload_n hx hb dX8_lowestNoteOf_3 rfl (lv_at hl 0 rfl) ?_
      refine g_X8_4 (k := k0) C hV hk0 q_216 dX8_lowestNoteOf_4 ?_
      refine lv_icmp_ge (tgt := 48) hx hb dX8_lowestNoteOf_7 (by decide) (fun b_1 => ?_) (fun b_1 => ?_)
      · have hr := it b_1 hr
        refine lv_iconst (v := (-1)) hx hb dX8_lowestNoteOf_48 (by decide) ?_
        exact fin_i C hV hS (Option.some.inj hr) dX8_lowestNoteOf_49
      · have hr := ie b_1 hr
        refine lv_aload_n hx hb dX8_lowestNoteOf_10 rfl (lv_at hl 0 rfl) ?_
        refine lv_iload_n hx hb dX8_lowestNoteOf_11 rfl (lv_at hl 3 rfl) ?_
        obtain ⟨q2, e2, hr⟩ := ob hr
        refine cal_r (run_V (As := [.int x3]) (rest := []) C hV hS (c_X8_noteNumbered l G b0 V k0 hk0 x3 q2 e2) (rcv hK hV (kd_lt hk0 (by decide)) (cel_1 hk0) rfl) q_563 q_565 q_14 q_94 q_566 dk_X8_noteNumbered (rm_ok (by decide) (by decide)) hl.1 rfl (Nat.le_of_ble_eq_true rfl) dX8_lowestNoteOf_12 ⟨Nat.zero_le _, Nat.zero_le _⟩) hS (fun H locs hV hS => ?_)
        refine lv_astore (lv' := [(4, .ref (b0 + q2)), (0, .ref (b0 + k0)), (1, .int x1), (2, .int x2), (3, .int x3)]) hx hb dX8_lowestNoteOf_15 hl (by decide) rfl (fun ls hl => ?_)
        refine lv_aload hx hb dX8_lowestNoteOf_17 (lv_at hl 0 rfl) ?_
        refine gn_X4_0 (k := q2) C hV (kr_X8_noteNumbered hk0 e2) q_196 dX8_lowestNoteOf_19 ?_
        refine lv_iload_n hx hb dX8_lowestNoteOf_22 rfl (lv_at hl 2 rfl) ?_
        refine lv_icmp_ne (tgt := 42) hx hb dX8_lowestNoteOf_23 (by decide) (fun b_3 => ?_) (fun b_3 => ?_)
        · have hr := ie b_3 hr
          exact K_42 (fun V k0 x1 x2 x3 => f_X8_lowestNoteOf_b2 n V k0 x1 x2 x3) (fun k0 hk0 x1 x2 x3 hr => ih k0 hk0 x1 x2 x3 hr) k0 hk0 x1 x2 x3 hr _ _ ls hV hS (lv_sub hl [1, 2, 3, 4] rfl)
        · have hr := it b_3 hr
          refine lv_aload hx hb dX8_lowestNoteOf_26 (lv_at hl 0 rfl) ?_
          refine lv_aload_n hx hb dX8_lowestNoteOf_28 rfl (lv_at hl 1 rfl) ?_
          refine lv_iload_n hx hb dX8_lowestNoteOf_29 rfl (lv_at hl 2 rfl) ?_
          obtain ⟨q4, e4, hr⟩ := ob hr
          refine cal_r (run_V (As := [.int x1]) (rest := [.ref (b0 + q2)]) C hV hS (c_X8_netNumbered l G b0 V k0 hk0 x1 q4 e4) (rcv hK hV (kd_lt hk0 (by decide)) (cel_1 hk0) rfl) q_534 q_485 q_1 q_94 q_486 dk_X8_netNumbered (rm_ok (by decide) (by decide)) hl.1 rfl (Nat.le_of_ble_eq_true rfl) dX8_lowestNoteOf_30 ⟨Nat.zero_le _, Nat.zero_le _⟩) hS (fun H locs hV hS => ?_)
          refine lv_iload_n hx hb dX8_lowestNoteOf_33 rfl (lv_at hl 3 rfl) ?_
          obtain ⟨q5, e5, hr⟩ := ob hr
          refine cal_i (run_VN (As := [.ref (b0 + q4), .int x2]) (rest := []) C hV hS (c_X4_isOf l G b0 V q2 (kr_X8_noteNumbered hk0 e2) q4 (kr_X8_netNumbered hk0 e4) x2 q5 e5) (rcv hK hV (kd_lt (kr_X8_noteNumbered hk0 e2) (by decide)) (cel_7 (kr_X8_noteNumbered hk0 e2)) rfl) q_577 q_579 q_17 q_97 q_580 dk_X4_isOf (rm_ok (by decide) (by decide)) hl.1 rfl (Nat.le_of_ble_eq_true rfl) dX8_lowestNoteOf_34 ⟨Nat.zero_le _, Nat.zero_le _⟩) hS (fun H locs hV hS => ?_)
          refine lv_if_eq (tgt := 42) hx hb dX8_lowestNoteOf_37 (by decide) (fun b_6 => ?_) (fun b_6 => ?_)
          · have hr := it b_6 hr
            exact K_42 (fun V k0 x1 x2 x3 => f_X8_lowestNoteOf_b2 n V k0 x1 x2 x3) (fun k0 hk0 x1 x2 x3 hr => ih k0 hk0 x1 x2 x3 hr) k0 hk0 x1 x2 x3 hr _ _ ls hV hS (lv_sub hl [1, 2, 3, 4] rfl)
          · have hr := ie b_6 hr
            refine lv_iload_n hx hb dX8_lowestNoteOf_40 rfl (lv_at hl 4 rfl) ?_
            exact fin_i C hV hS (Option.some.inj hr) dX8_lowestNoteOf_41
  unfold f_X8_lowestNoteOf at hr
  refine lv_iconst (v := 0) hx hb dX8_lowestNoteOf_0 (by decide) ?_
  refine lv_istore_n (lv' := [(3, .int 0), (0, .ref (b0 + k0)), (1, .int x1), (2, .int x2)]) hx hb dX8_lowestNoteOf_1 rfl hl (by decide) rfl (fun ls hl => ?_)
  exact K_2 500 k0 hk0 x1 x2 0 hr _ _ ls hV hS (lv_sub hl [1, 2, 3, 0] rfl)
set_option maxHeartbeats 4000000 in
set_option maxRecDepth 100000 in
theorem c_X8_readsAsNoted (l : Launch) (G : LG) (b0 : Nat) (V : St) (k0 : Nat) (hk0 : kd k0 = 1) (k1 : Nat) (hk1 : kd k1 = 7) (res : Int32) (hr : f_X8_readsAsNoted V k0 k1 = some res) : Met l yX8_readsAsNoted (wy yX8_readsAsNoted cX8_readsAsNoted 3 (some .boolean)) (rm 2) (va_Pc [.ref (b0 + k0), .ref (b0 + k1)] (Iv G b0 V)) (QI G b0 res V) 0 0 (Ab b0) := by
  refine mk_m (by decide +kernel) (Nat.le_of_ble_eq_true rfl) ?_
  intro p e s m below meth c C hV hS ls hl
  obtain ⟨args, hargs⟩ : ∃ z, z = ([.ref (b0 + k0), .ref (b0 + k1)] : List Value).toArray := ⟨_, rfl⟩
  rw [← hargs] at C ⊢
  obtain ⟨hx, hb, hrt, hml, hown, hts, hlocks, hK, hSv⟩ := id C
  have hl : lv_has ls 3 [(0, .ref (b0 + k0)), (1, .ref (b0 + k1))] := hl
  unfold f_X8_readsAsNoted at hr
  refine lv_aload_n hx hb dX8_readsAsNoted_0 rfl (lv_at hl 0 rfl) ?_
  refine lv_aload_n hx hb dX8_readsAsNoted_1 rfl (lv_at hl 1 rfl) ?_
  refine gn_X4_0 (k := k1) C hV hk1 q_196 dX8_readsAsNoted_2 ?_
  obtain ⟨q1, e1, hr⟩ := ob hr
  refine cal_r (run_V (As := [.int (V k1 0)]) (rest := []) C hV hS (c_X8_netNumbered l G b0 V k0 hk0 (V k1 0) q1 e1) (rcv hK hV (kd_lt hk0 (by decide)) (cel_1 hk0) rfl) q_534 q_485 q_1 q_94 q_486 dk_X8_netNumbered (rm_ok (by decide) (by decide)) hl.1 rfl (Nat.le_of_ble_eq_true rfl) dX8_readsAsNoted_5 ⟨Nat.zero_le _, Nat.zero_le _⟩) hS (fun H locs hV hS => ?_)
  refine lv_astore_n (lv' := [(2, .ref (b0 + q1)), (0, .ref (b0 + k0)), (1, .ref (b0 + k1))]) hx hb dX8_readsAsNoted_8 rfl hl (by decide) rfl (fun ls hl => ?_)
  refine lv_aload_n hx hb dX8_readsAsNoted_9 rfl (lv_at hl 2 rfl) ?_
  refine lv_aload_n hx hb dX8_readsAsNoted_10 rfl (lv_at hl 0 rfl) ?_
  refine lv_aload_n hx hb dX8_readsAsNoted_11 rfl (lv_at hl 0 rfl) ?_
  refine lv_aload_n hx hb dX8_readsAsNoted_12 rfl (lv_at hl 2 rfl) ?_
  obtain ⟨q2, e2, hr⟩ := ob hr
  refine cal_i (run_VN (As := []) (rest := [.ref (b0 + q1), .ref (b0 + q1), .ref (b0 + k1)]) C hV hS (c_X4_places l G b0 V k1 hk1 q2 e2) (rcv hK hV (kd_lt hk1 (by decide)) (cel_7 hk1) rfl) q_571 q_573 q_16 q_97 q_574 dk_X4_places (rm_ok (by decide) (by decide)) hl.1 rfl (Nat.le_of_ble_eq_true rfl) dX8_readsAsNoted_13 ⟨Nat.zero_le _, Nat.zero_le _⟩) hS (fun H locs hV hS => ?_)
  obtain ⟨q3, e3, hr⟩ := ob hr
  refine cal_i (run_SN (As := [.int q2]) (rest := [.ref (b0 + q1), .ref (b0 + q1), .ref (b0 + k1)]) C hV hS (c_X9_lowestPlace l G b0 V q2 q3 e3) q_575 q_497 q_93 q_498 dk_X9_lowestPlace (rm_ok (by decide) (by decide)) hl.1 rfl (Nat.le_of_ble_eq_true rfl) dX8_readsAsNoted_16 ⟨Nat.zero_le _, Nat.zero_le _⟩) hS (fun H locs hV hS => ?_)
  obtain ⟨q4, e4, hr⟩ := ob hr
  refine cal_i (run_VN (As := [.int q3]) (rest := [.ref (b0 + q1), .ref (b0 + k1)]) C hV hS (c_X3_chapterAt l G b0 V q1 (kr_X8_netNumbered hk0 e1) q3 q4 e4) (rcv hK hV (kd_lt (kr_X8_netNumbered hk0 e1) (by decide)) (cel_5 (kr_X8_netNumbered hk0 e1)) rfl) q_576 q_507 q_4 q_95 q_508 dk_X3_chapterAt (rm_ok (by decide) (by decide)) hl.1 rfl (Nat.le_of_ble_eq_true rfl) dX8_readsAsNoted_19 ⟨Nat.zero_le _, Nat.zero_le _⟩) hS (fun H locs hV hS => ?_)
  obtain ⟨q5, e5, hr⟩ := ob hr
  refine cal_i (run_VN (As := [.ref (b0 + q1), .int q4]) (rest := []) C hV hS (c_X4_isOf l G b0 V k1 hk1 q1 (kr_X8_netNumbered hk0 e1) q4 q5 e5) (rcv hK hV (kd_lt hk1 (by decide)) (cel_7 hk1) rfl) q_577 q_579 q_17 q_97 q_580 dk_X4_isOf (rm_ok (by decide) (by decide)) hl.1 rfl (Nat.le_of_ble_eq_true rfl) dX8_readsAsNoted_22 ⟨Nat.zero_le _, Nat.zero_le _⟩) hS (fun H locs hV hS => ?_)
  obtain ⟨q6, e6, hr⟩ := ob hr
  exact fin_z C hV hS (nr_in e6).2 (Option.some.inj hr) dX8_readsAsNoted_25
set_option maxHeartbeats 4000000 in
set_option maxRecDepth 100000 in
theorem c_X8_canBeMended (l : Launch) (G : LG) (b0 : Nat) (V : St) (k0 : Nat) (hk0 : kd k0 = 1) (k1 : Nat) (hk1 : kd k1 = 7) (res : Int32) (hr : f_X8_canBeMended V k0 k1 = some res) : Met l yX8_canBeMended (wy yX8_canBeMended cX8_canBeMended 3 (some .boolean)) (rm 2) (va_Pc [.ref (b0 + k0), .ref (b0 + k1)] (Iv G b0 V)) (QI G b0 res V) 0 0 (Ab b0) := by
  refine mk_m (by decide +kernel) (Nat.le_of_ble_eq_true rfl) ?_
  intro p e s m below meth c C hV hS ls hl
  obtain ⟨args, hargs⟩ : ∃ z, z = ([.ref (b0 + k0), .ref (b0 + k1)] : List Value).toArray := ⟨_, rfl⟩
  rw [← hargs] at C ⊢
  obtain ⟨hx, hb, hrt, hml, hown, hts, hlocks, hK, hSv⟩ := id C
  have hl : lv_has ls 3 [(0, .ref (b0 + k0)), (1, .ref (b0 + k1))] := hl
  unfold f_X8_canBeMended at hr
  refine lv_aload_n hx hb dX8_canBeMended_0 rfl (lv_at hl 0 rfl) ?_
  refine lv_aload_n hx hb dX8_canBeMended_1 rfl (lv_at hl 1 rfl) ?_
  refine gn_X4_0 (k := k1) C hV hk1 q_196 dX8_canBeMended_2 ?_
  obtain ⟨q1, e1, hr⟩ := ob hr
  refine cal_r (run_V (As := [.int (V k1 0)]) (rest := []) C hV hS (c_X8_netNumbered l G b0 V k0 hk0 (V k1 0) q1 e1) (rcv hK hV (kd_lt hk0 (by decide)) (cel_1 hk0) rfl) q_534 q_485 q_1 q_94 q_486 dk_X8_netNumbered (rm_ok (by decide) (by decide)) hl.1 rfl (Nat.le_of_ble_eq_true rfl) dX8_canBeMended_5 ⟨Nat.zero_le _, Nat.zero_le _⟩) hS (fun H locs hV hS => ?_)
  refine lv_astore_n (lv' := [(2, .ref (b0 + q1)), (0, .ref (b0 + k0)), (1, .ref (b0 + k1))]) hx hb dX8_canBeMended_8 rfl hl (by decide) rfl (fun ls hl => ?_)
  refine lv_aload_n hx hb dX8_canBeMended_9 rfl (lv_at hl 2 rfl) ?_
  refine lv_aload_n hx hb dX8_canBeMended_10 rfl (lv_at hl 0 rfl) ?_
  refine lv_aload_n hx hb dX8_canBeMended_11 rfl (lv_at hl 2 rfl) ?_
  obtain ⟨q2, e2, hr⟩ := ob hr
  refine cal_i (run_VN (As := []) (rest := [.ref (b0 + q1), .ref (b0 + k1)]) C hV hS (c_X4_places l G b0 V k1 hk1 q2 e2) (rcv hK hV (kd_lt hk1 (by decide)) (cel_7 hk1) rfl) q_571 q_573 q_16 q_97 q_574 dk_X4_places (rm_ok (by decide) (by decide)) hl.1 rfl (Nat.le_of_ble_eq_true rfl) dX8_canBeMended_12 ⟨Nat.zero_le _, Nat.zero_le _⟩) hS (fun H locs hV hS => ?_)
  obtain ⟨q3, e3, hr⟩ := ob hr
  refine cal_i (run_VN (As := [.ref (b0 + q1), .int q2]) (rest := []) C hV hS (c_X4_isOf l G b0 V k1 hk1 q1 (kr_X8_netNumbered hk0 e1) q2 q3 e3) (rcv hK hV (kd_lt hk1 (by decide)) (cel_7 hk1) rfl) q_577 q_579 q_17 q_97 q_580 dk_X4_isOf (rm_ok (by decide) (by decide)) hl.1 rfl (Nat.le_of_ble_eq_true rfl) dX8_canBeMended_15 ⟨Nat.zero_le _, Nat.zero_le _⟩) hS (fun H locs hV hS => ?_)
  refine lv_if_eq (tgt := 36) hx hb dX8_canBeMended_18 (by decide) (fun b_4 => ?_) (fun b_4 => ?_)
  · have hr := it b_4 hr
    refine lv_iconst (v := 0) hx hb dX8_canBeMended_36 (by decide) ?_
    exact fin_z C hV hS (by decide) (Option.some.inj hr) dX8_canBeMended_37
  · have hr := ie b_4 hr
    refine lv_aload_n hx hb dX8_canBeMended_21 rfl (lv_at hl 0 rfl) ?_
    refine lv_aload_n hx hb dX8_canBeMended_22 rfl (lv_at hl 2 rfl) ?_
    obtain ⟨q5, e5, hr⟩ := ob hr
    refine cal_i (run_VN (As := []) (rest := [.ref (b0 + q1)]) C hV hS (c_X4_places l G b0 V k1 hk1 q5 e5) (rcv hK hV (kd_lt hk1 (by decide)) (cel_7 hk1) rfl) q_571 q_573 q_16 q_97 q_574 dk_X4_places (rm_ok (by decide) (by decide)) hl.1 rfl (Nat.le_of_ble_eq_true rfl) dX8_canBeMended_23 ⟨Nat.zero_le _, Nat.zero_le _⟩) hS (fun H locs hV hS => ?_)
    obtain ⟨q6, e6, hr⟩ := ob hr
    refine cal_i (run_VN (As := [.int q5]) (rest := []) C hV hS (c_X3_hasStringOutOf l G b0 V q1 (kr_X8_netNumbered hk0 e1) q5 q6 e6) (rcv hK hV (kd_lt (kr_X8_netNumbered hk0 e1) (by decide)) (cel_5 (kr_X8_netNumbered hk0 e1)) rfl) q_1449 q_1451 q_83 q_95 q_1452 dk_X3_hasStringOutOf (rm_ok (by decide) (by decide)) hl.1 rfl (Nat.le_of_ble_eq_true rfl) dX8_canBeMended_26 ⟨Nat.zero_le _, Nat.zero_le _⟩) hS (fun H locs hV hS => ?_)
    refine lv_if_ne (tgt := 36) hx hb dX8_canBeMended_29 (by decide) (fun b_7 => ?_) (fun b_7 => ?_)
    · have hr := ie b_7 hr
      refine lv_iconst (v := 0) hx hb dX8_canBeMended_36 (by decide) ?_
      exact fin_z C hV hS (by decide) (Option.some.inj hr) dX8_canBeMended_37
    · have hr := it b_7 hr
      refine lv_iconst (v := 1) hx hb dX8_canBeMended_32 (by decide) ?_
      refine lv_goto (tgt := 37) hx hb dX8_canBeMended_33 (by decide) ?_
      exact fin_z C hV hS (by decide) (Option.some.inj hr) dX8_canBeMended_37
set_option maxHeartbeats 4000000 in
set_option maxRecDepth 100000 in
theorem c_X8_leastByStrings (l : Launch) (G : LG) (b0 : Nat) (V : St) (k0 : Nat) (hk0 : kd k0 = 1) (k1 : Nat) (hk1 : kd k1 = 7) (res : Int32 × St) (hr : f_X8_leastByStrings V k0 k1 = some res) : Met l yX8_leastByStrings (wy yX8_leastByStrings cX8_leastByStrings 3 (some .int)) (rm 4) (va_Pc [.ref (b0 + k0), .ref (b0 + k1), .ref (b0 + 190)] (Iv G b0 V)) (QI G b0 res.1 res.2) 0 0 (Ab b0) := by
  refine mk_m (by decide +kernel) (Nat.le_of_ble_eq_true rfl) ?_
  intro p e s m below meth c C hV hS ls hl
  obtain ⟨args, hargs⟩ : ∃ z, z = ([.ref (b0 + k0), .ref (b0 + k1), .ref (b0 + 190)] : List Value).toArray := ⟨_, rfl⟩
  rw [← hargs] at C ⊢
  obtain ⟨hx, hb, hrt, hml, hown, hts, hlocks, hK, hSv⟩ := id C
  have hl : lv_has ls 3 [(0, .ref (b0 + k0)), (1, .ref (b0 + k1)), (2, .ref (b0 + 190))] := hl
  unfold f_X8_leastByStrings at hr
  refine lv_aload_n hx hb dX8_leastByStrings_0 rfl (lv_at hl 0 rfl) ?_
  refine lv_aload_n hx hb dX8_leastByStrings_1 rfl (lv_at hl 1 rfl) ?_
  refine gn_X4_0 (k := k1) C hV hk1 q_196 dX8_leastByStrings_2 ?_
  obtain ⟨q1, e1, hr⟩ := ob hr
  refine cal_r (run_V (As := [.int (V k1 0)]) (rest := []) C hV hS (c_X8_netNumbered l G b0 V k0 hk0 (V k1 0) q1 e1) (rcv hK hV (kd_lt hk0 (by decide)) (cel_1 hk0) rfl) q_534 q_485 q_1 q_94 q_486 dk_X8_netNumbered (rm_ok (by decide) (by decide)) hl.1 rfl (Nat.le_of_ble_eq_true rfl) dX8_leastByStrings_5 ⟨Nat.zero_le _, Nat.zero_le _⟩) hS (fun H locs hV hS => ?_)
  refine lv_aload_n hx hb dX8_leastByStrings_8 rfl (lv_at hl 1 rfl) ?_
  obtain ⟨q2, e2, hr⟩ := ob hr
  refine cal_i (run_VN (As := []) (rest := [.ref (b0 + q1)]) C hV hS (c_X4_places l G b0 V k1 hk1 q2 e2) (rcv hK hV (kd_lt hk1 (by decide)) (cel_7 hk1) rfl) q_571 q_573 q_16 q_97 q_574 dk_X4_places (rm_ok (by decide) (by decide)) hl.1 rfl (Nat.le_of_ble_eq_true rfl) dX8_leastByStrings_9 ⟨Nat.zero_le _, Nat.zero_le _⟩) hS (fun H locs hV hS => ?_)
  refine lv_aload_n hx hb dX8_leastByStrings_12 rfl (lv_at hl 2 rfl) ?_
  obtain ⟨q3, e3, hr⟩ := ob hr
  refine cal_i (run_VN (As := [.int q2, .ref (b0 + 190)]) (rest := []) C hV hS (c_X3_leastByStrings l G b0 V q1 (kr_X8_netNumbered hk0 e1) q2 q3 e3) (rcv hK hV (kd_lt (kr_X8_netNumbered hk0 e1) (by decide)) (cel_5 (kr_X8_netNumbered hk0 e1)) rfl) q_1458 q_1460 q_85 q_95 q_1461 dk_X3_leastByStrings (rm_ok (by decide) (by decide)) hl.1 rfl (Nat.le_of_ble_eq_true rfl) dX8_leastByStrings_13 ⟨Nat.zero_le _, Nat.zero_le _⟩) hS (fun H locs hV hS => ?_)
  rw [← Option.some.inj hr]
  exact fin_i C hV hS rfl dX8_leastByStrings_16
set_option maxHeartbeats 4000000 in
set_option maxRecDepth 100000 in
theorem c_X8_leastByPlaces (l : Launch) (G : LG) (b0 : Nat) (V : St) (k0 : Nat) (hk0 : kd k0 = 1) (k1 : Nat) (hk1 : kd k1 = 7) (res : Int32) (hr : f_X8_leastByPlaces V k0 k1 = some res) : Met l yX8_leastByPlaces (wy yX8_leastByPlaces cX8_leastByPlaces 2 (some .int)) (rm 2) (va_Pc [.ref (b0 + k0), .ref (b0 + k1)] (Iv G b0 V)) (QI G b0 res V) 0 0 (Ab b0) := by
  refine mk_m (by decide +kernel) (Nat.le_of_ble_eq_true rfl) ?_
  intro p e s m below meth c C hV hS ls hl
  obtain ⟨args, hargs⟩ : ∃ z, z = ([.ref (b0 + k0), .ref (b0 + k1)] : List Value).toArray := ⟨_, rfl⟩
  rw [← hargs] at C ⊢
  obtain ⟨hx, hb, hrt, hml, hown, hts, hlocks, hK, hSv⟩ := id C
  have hl : lv_has ls 2 [(0, .ref (b0 + k0)), (1, .ref (b0 + k1))] := hl
  unfold f_X8_leastByPlaces at hr
  refine lv_aload_n hx hb dX8_leastByPlaces_0 rfl (lv_at hl 0 rfl) ?_
  refine lv_aload_n hx hb dX8_leastByPlaces_1 rfl (lv_at hl 1 rfl) ?_
  refine gn_X4_0 (k := k1) C hV hk1 q_196 dX8_leastByPlaces_2 ?_
  obtain ⟨q1, e1, hr⟩ := ob hr
  refine cal_r (run_V (As := [.int (V k1 0)]) (rest := []) C hV hS (c_X8_netNumbered l G b0 V k0 hk0 (V k1 0) q1 e1) (rcv hK hV (kd_lt hk0 (by decide)) (cel_1 hk0) rfl) q_534 q_485 q_1 q_94 q_486 dk_X8_netNumbered (rm_ok (by decide) (by decide)) hl.1 rfl (Nat.le_of_ble_eq_true rfl) dX8_leastByPlaces_5 ⟨Nat.zero_le _, Nat.zero_le _⟩) hS (fun H locs hV hS => ?_)
  refine lv_aload_n hx hb dX8_leastByPlaces_8 rfl (lv_at hl 1 rfl) ?_
  obtain ⟨q2, e2, hr⟩ := ob hr
  refine cal_i (run_VN (As := []) (rest := [.ref (b0 + q1)]) C hV hS (c_X4_places l G b0 V k1 hk1 q2 e2) (rcv hK hV (kd_lt hk1 (by decide)) (cel_7 hk1) rfl) q_571 q_573 q_16 q_97 q_574 dk_X4_places (rm_ok (by decide) (by decide)) hl.1 rfl (Nat.le_of_ble_eq_true rfl) dX8_leastByPlaces_9 ⟨Nat.zero_le _, Nat.zero_le _⟩) hS (fun H locs hV hS => ?_)
  obtain ⟨q3, e3, hr⟩ := ob hr
  refine cal_i (run_VN (As := [.int q2]) (rest := []) C hV hS (c_X3_leastByPlaces l G b0 V q1 (kr_X8_netNumbered hk0 e1) q2 q3 e3) (rcv hK hV (kd_lt (kr_X8_netNumbered hk0 e1) (by decide)) (cel_5 (kr_X8_netNumbered hk0 e1)) rfl) q_1473 q_1475 q_87 q_95 q_1476 dk_X3_leastByPlaces (rm_ok (by decide) (by decide)) hl.1 rfl (Nat.le_of_ble_eq_true rfl) dX8_leastByPlaces_12 ⟨Nat.zero_le _, Nat.zero_le _⟩) hS (fun H locs hV hS => ?_)
  exact fin_i C hV hS (Option.some.inj hr) dX8_leastByPlaces_15
set_option maxHeartbeats 4000000 in
set_option maxRecDepth 100000 in
theorem c_X8_linesUnderWater (l : Launch) (G : LG) (b0 : Nat) (V : St) (k0 : Nat) (hk0 : kd k0 = 1) (x1 : Int32) (res : Int32) (hr : f_X8_linesUnderWater V k0 x1 = some res) : Met l yX8_linesUnderWater (wy yX8_linesUnderWater cX8_linesUnderWater 2 (some .int)) (rm 2) (va_Pc [.ref (b0 + k0), .int x1] (Iv G b0 V)) (QI G b0 res V) 0 0 (Ab b0) := by
  refine mk_m (by decide +kernel) (Nat.le_of_ble_eq_true rfl) ?_
  intro p e s m below meth c C hV hS ls hl
  obtain ⟨args, hargs⟩ : ∃ z, z = ([.ref (b0 + k0), .int x1] : List Value).toArray := ⟨_, rfl⟩
  rw [← hargs] at C ⊢
  obtain ⟨hx, hb, hrt, hml, hown, hts, hlocks, hK, hSv⟩ := id C
  have hl : lv_has ls 2 [(0, .ref (b0 + k0)), (1, .int x1)] := hl
  unfold f_X8_linesUnderWater at hr
  refine lv_aload_n hx hb dX8_linesUnderWater_0 rfl (lv_at hl 0 rfl) ?_
  refine g_X8_5 (k := k0) C hV hk0 q_218 dX8_linesUnderWater_1 ?_
  refine lv_aload_n hx hb dX8_linesUnderWater_4 rfl (lv_at hl 0 rfl) ?_
  refine lv_iload_n hx hb dX8_linesUnderWater_5 rfl (lv_at hl 1 rfl) ?_
  obtain ⟨q1, e1, hr⟩ := ob hr
  refine cal_r (run_V (As := [.int x1]) (rest := [.int (V k0 5)]) C hV hS (c_X8_netNumbered l G b0 V k0 hk0 x1 q1 e1) (rcv hK hV (kd_lt hk0 (by decide)) (cel_1 hk0) rfl) q_534 q_485 q_1 q_94 q_486 dk_X8_netNumbered (rm_ok (by decide) (by decide)) hl.1 rfl (Nat.le_of_ble_eq_true rfl) dX8_linesUnderWater_6 ⟨Nat.zero_le _, Nat.zero_le _⟩) hS (fun H locs hV hS => ?_)
  refine gn_X3_4 (k := q1) C hV (kr_X8_netNumbered hk0 e1) q_162 dX8_linesUnderWater_9 ?_
  refine lv_iadd hx hb dX8_linesUnderWater_12 ?_
  refine lv_iconst (v := 4) hx hb dX8_linesUnderWater_13 (by decide) ?_
  refine r_min (D := 1) C q_793 q_703 q_112 q_704 hl.1 ⟨rfl, rfl⟩ (Nat.le_of_ble_eq_true rfl) ⟨Nat.zero_le _, Nat.zero_le _⟩ dX8_linesUnderWater_14 ?_
  refine W.eq (g2 := F0 m 17 ls [.int (imin ((V k0 5) + (V q1 4)) 4)]) rfl ?_
  exact fin_i C hV hS (Option.some.inj hr) dX8_linesUnderWater_17
set_option maxHeartbeats 4000000 in
set_option maxRecDepth 100000 in
theorem c_X8_dryPlaces (l : Launch) (G : LG) (b0 : Nat) (V : St) (k0 : Nat) (hk0 : kd k0 = 1) (x1 : Int32) (res : Int32) (hr : f_X8_dryPlaces V k0 x1 = some res) : Met l yX8_dryPlaces (wy yX8_dryPlaces cX8_dryPlaces 2 (some .int)) (rm 3) (va_Pc [.ref (b0 + k0), .int x1] (Iv G b0 V)) (QI G b0 res V) 0 0 (Ab b0) := by
  refine mk_m (by decide +kernel) (Nat.le_of_ble_eq_true rfl) ?_
  intro p e s m below meth c C hV hS ls hl
  obtain ⟨args, hargs⟩ : ∃ z, z = ([.ref (b0 + k0), .int x1] : List Value).toArray := ⟨_, rfl⟩
  rw [← hargs] at C ⊢
  obtain ⟨hx, hb, hrt, hml, hown, hts, hlocks, hK, hSv⟩ := id C
  have hl : lv_has ls 2 [(0, .ref (b0 + k0)), (1, .int x1)] := hl
  unfold f_X8_dryPlaces at hr
  refine lv_iconst (v := 1) hx hb dX8_dryPlaces_0 (by decide) ?_
  refine lv_iconst (v := 4) hx hb dX8_dryPlaces_1 (by decide) ?_
  refine lv_aload_n hx hb dX8_dryPlaces_2 rfl (lv_at hl 0 rfl) ?_
  refine lv_iload_n hx hb dX8_dryPlaces_3 rfl (lv_at hl 1 rfl) ?_
  obtain ⟨q1, e1, hr⟩ := ob hr
  refine cal_i (run_V (As := [.int x1]) (rest := [.int 4, .int 1]) C hV hS (c_X8_linesUnderWater l G b0 V k0 hk0 x1 q1 e1) (rcv hK hV (kd_lt hk0 (by decide)) (cel_1 hk0) rfl) q_789 q_791 q_43 q_94 q_792 dk_X8_linesUnderWater (rm_ok (by decide) (by decide)) hl.1 rfl (Nat.le_of_ble_eq_true rfl) dX8_dryPlaces_4 ⟨Nat.zero_le _, Nat.zero_le _⟩) hS (fun H locs hV hS => ?_)
  refine lv_isub hx hb dX8_dryPlaces_7 ?_
  refine lv_bipush (v := 6) hx hb dX8_dryPlaces_8 (by decide) ?_
  refine lv_imul hx hb dX8_dryPlaces_10 ?_
  refine lv_ishl hx hb dX8_dryPlaces_11 ?_
  refine lv_iconst (v := 1) hx hb dX8_dryPlaces_12 (by decide) ?_
  refine lv_isub hx hb dX8_dryPlaces_13 ?_
  exact fin_i C hV hS (Option.some.inj hr) dX8_dryPlaces_14
set_option maxHeartbeats 4000000 in
set_option maxRecDepth 100000 in
theorem c_X8_countKnots (l : Launch) (G : LG) (b0 : Nat) (V : St) (k0 : Nat) (hk0 : kd k0 = 1) (res : Int32) (hr : f_X8_countKnots V k0 = some res) : Met l yX8_countKnots (wy yX8_countKnots cX8_countKnots 3 (some .int)) (rm 2) (va_Pc [.ref (b0 + k0)] (Iv G b0 V)) (QI G b0 res V) 0 0 (Ab b0) := by
  refine mk_m (by decide +kernel) (Nat.le_of_ble_eq_true rfl) ?_
  intro p e s m below meth c C hV hS ls hl
  obtain ⟨args, hargs⟩ : ∃ z, z = ([.ref (b0 + k0)] : List Value).toArray := ⟨_, rfl⟩
  rw [← hargs] at C ⊢
  obtain ⟨hx, hb, hrt, hml, hown, hts, hlocks, hK, hSv⟩ := id C
  have hl : lv_has ls 3 [(0, .ref (b0 + k0))] := hl
  have K_4 : ∀ (n : Nat) (k0 : Nat) (hk0 : kd k0 = 1) (x1 : Int32) (x2 : Int32), f_X8_countKnots_b4 n V k0 x1 x2 = some res → ∀ (H : Heap) (locs : List Loc) (ls : Array Slot), Hd G b0 V H → va_S (Ab b0) s.heap H locs → lv_has ls 3 [(0, .ref (b0 + k0)), (1, .int x1), (2, .int x2)] → W p l e (rm 2) s m args below meth c H locs 0 0 (MQ below (QI G b0 res V) args s 0 0 (Ab b0)) (F0 m 4 ls []) := by
    intro  n
    induction n with
    | zero =>
      intro k0 hk0 x1 x2 hr
      rw [f_X8_countKnots_b4] at hr
      cases hr
    | succ n ih =>
      intro k0 hk0 x1 x2 hr H locs ls hV hS hl
      rw [f_X8_countKnots_b4] at hr
      refine lv_iload_n hx hb dX8_countKnots_4 rfl (lv_at hl 2 rfl) ?_
      refine lv_iconst (v := 3) hx hb dX8_countKnots_5 (by decide) ?_
      refine lv_icmp_ge (tgt := 29) hx hb dX8_countKnots_6 (by decide) (fun b_1 => ?_) (fun b_1 => ?_)
      · have hr := it b_1 hr
        refine lv_iload_n hx hb dX8_countKnots_29 rfl (lv_at hl 1 rfl) ?_
        exact fin_i C hV hS (Option.some.inj hr) dX8_countKnots_30
      · have hr := ie b_1 hr
        refine lv_iload_n hx hb dX8_countKnots_9 rfl (lv_at hl 1 rfl) ?_
        refine lv_aload_n hx hb dX8_countKnots_10 rfl (lv_at hl 0 rfl) ?_
        refine lv_iload_n hx hb dX8_countKnots_11 rfl (lv_at hl 2 rfl) ?_
        obtain ⟨q2, e2, hr⟩ := ob hr
        refine cal_r (run_V (As := [.int x2]) (rest := [.int x1]) C hV hS (c_X8_netNumbered l G b0 V k0 hk0 x2 q2 e2) (rcv hK hV (kd_lt hk0 (by decide)) (cel_1 hk0) rfl) q_534 q_485 q_1 q_94 q_486 dk_X8_netNumbered (rm_ok (by decide) (by decide)) hl.1 rfl (Nat.le_of_ble_eq_true rfl) dX8_countKnots_12 ⟨Nat.zero_le _, Nat.zero_le _⟩) hS (fun H locs hV hS => ?_)
        obtain ⟨q3, e3, hr⟩ := ob hr
        refine cal_i (run_VN (As := []) (rest := [.int x1]) C hV hS (c_X3_knots l G b0 V q2 (kr_X8_netNumbered hk0 e2) q3 e3) (rcv hK hV (kd_lt (kr_X8_netNumbered hk0 e2) (by decide)) (cel_5 (kr_X8_netNumbered hk0 e2)) rfl) q_535 q_494 q_3 q_95 q_495 dk_X3_knots (rm_ok (by decide) (by decide)) hl.1 rfl (Nat.le_of_ble_eq_true rfl) dX8_countKnots_15 ⟨Nat.zero_le _, Nat.zero_le _⟩) hS (fun H locs hV hS => ?_)
        obtain ⟨q4, e4, hr⟩ := ob hr
        refine cal_i (run_S (As := [.int q3]) (rest := [.int x1]) C hV hS (c_J6_bitCount_0f7a4 l G b0 V q3 q4 e4) q_536 q_500 q_104 q_501 dk_J6_bitCount_0f7a4 (rm_ok (by decide) (by decide)) hl.1 rfl (Nat.le_of_ble_eq_true rfl) dX8_countKnots_18 ⟨Nat.zero_le _, Nat.zero_le _⟩) hS (fun H locs hV hS => ?_)
        refine lv_iadd hx hb dX8_countKnots_21 ?_
        refine lv_istore_n (lv' := [(1, .int (x1 + q4)), (0, .ref (b0 + k0)), (2, .int x2)]) hx hb dX8_countKnots_22 rfl hl (by decide) rfl (fun ls hl => ?_)
        refine lv_iinc (v := x2 + 1) (lv' := [(2, .int (x2 + 1)), (1, .int (x1 + q4)), (0, .ref (b0 + k0))]) hx hb dX8_countKnots_23 hl (k := 2) rfl rfl (by decide) rfl (fun ls hl => ?_)
        refine lv_goto (tgt := 4) hx hb dX8_countKnots_26 (by decide) ?_
        exact ih k0 hk0 (x1 + q4) (x2 + 1) hr _ _ ls hV hS (lv_sub hl [2, 1, 0] rfl)
  unfold f_X8_countKnots at hr
  refine lv_iconst (v := 0) hx hb dX8_countKnots_0 (by decide) ?_
  refine lv_istore_n (lv' := [(1, .int 0), (0, .ref (b0 + k0))]) hx hb dX8_countKnots_1 rfl hl (by decide) rfl (fun ls hl => ?_)
  refine lv_iconst (v := 0) hx hb dX8_countKnots_2 (by decide) ?_
  refine lv_istore_n (lv' := [(2, .int 0), (1, .int 0), (0, .ref (b0 + k0))]) hx hb dX8_countKnots_3 rfl hl (by decide) rfl (fun ls hl => ?_)
  exact K_4 500 k0 hk0 0 0 hr _ _ ls hV hS (lv_sub hl [2, 1, 0] rfl)
set_option maxHeartbeats 4000000 in
set_option maxRecDepth 100000 in
theorem c_X8_countReadable (l : Launch) (G : LG) (b0 : Nat) (V : St) (k0 : Nat) (hk0 : kd k0 = 1) (res : Int32) (hr : f_X8_countReadable V k0 = some res) : Met l yX8_countReadable (wy yX8_countReadable cX8_countReadable 3 (some .int)) (rm 4) (va_Pc [.ref (b0 + k0)] (Iv G b0 V)) (QI G b0 res V) 0 0 (Ab b0) := by
  refine mk_m (by decide +kernel) (Nat.le_of_ble_eq_true rfl) ?_
  intro p e s m below meth c C hV hS ls hl
  obtain ⟨args, hargs⟩ : ∃ z, z = ([.ref (b0 + k0)] : List Value).toArray := ⟨_, rfl⟩
  rw [← hargs] at C ⊢
  obtain ⟨hx, hb, hrt, hml, hown, hts, hlocks, hK, hSv⟩ := id C
  have hl : lv_has ls 3 [(0, .ref (b0 + k0))] := hl
  have K_4 : ∀ (n : Nat) (k0 : Nat) (hk0 : kd k0 = 1) (x1 : Int32) (x2 : Int32), f_X8_countReadable_b4 n V k0 x1 x2 = some res → ∀ (H : Heap) (locs : List Loc) (ls : Array Slot), Hd G b0 V H → va_S (Ab b0) s.heap H locs → lv_has ls 3 [(0, .ref (b0 + k0)), (1, .int x1), (2, .int x2)] → W p l e (rm 4) s m args below meth c H locs 0 0 (MQ below (QI G b0 res V) args s 0 0 (Ab b0)) (F0 m 4 ls []) := by
    intro  n
    induction n with
    | zero =>
      intro k0 hk0 x1 x2 hr
      rw [f_X8_countReadable_b4] at hr
      cases hr
    | succ n ih =>
      intro k0 hk0 x1 x2 hr H locs ls hV hS hl
      rw [f_X8_countReadable_b4] at hr
      refine lv_iload_n hx hb dX8_countReadable_4 rfl (lv_at hl 2 rfl) ?_
      refine lv_iconst (v := 3) hx hb dX8_countReadable_5 (by decide) ?_
      refine lv_icmp_ge (tgt := 35) hx hb dX8_countReadable_6 (by decide) (fun b_1 => ?_) (fun b_1 => ?_)
      · have hr := it b_1 hr
        refine lv_iload_n hx hb dX8_countReadable_35 rfl (lv_at hl 1 rfl) ?_
        exact fin_i C hV hS (Option.some.inj hr) dX8_countReadable_36
      · have hr := ie b_1 hr
        refine lv_iload_n hx hb dX8_countReadable_9 rfl (lv_at hl 1 rfl) ?_
        refine lv_aload_n hx hb dX8_countReadable_10 rfl (lv_at hl 0 rfl) ?_
        refine lv_iload_n hx hb dX8_countReadable_11 rfl (lv_at hl 2 rfl) ?_
        obtain ⟨q2, e2, hr⟩ := ob hr
        refine cal_r (run_V (As := [.int x2]) (rest := [.int x1]) C hV hS (c_X8_netNumbered l G b0 V k0 hk0 x2 q2 e2) (rcv hK hV (kd_lt hk0 (by decide)) (cel_1 hk0) rfl) q_534 q_485 q_1 q_94 q_486 dk_X8_netNumbered (rm_ok (by decide) (by decide)) hl.1 rfl (Nat.le_of_ble_eq_true rfl) dX8_countReadable_12 ⟨Nat.zero_le _, Nat.zero_le _⟩) hS (fun H locs hV hS => ?_)
        obtain ⟨q3, e3, hr⟩ := ob hr
        refine cal_i (run_VN (As := []) (rest := [.int x1]) C hV hS (c_X3_knots l G b0 V q2 (kr_X8_netNumbered hk0 e2) q3 e3) (rcv hK hV (kd_lt (kr_X8_netNumbered hk0 e2) (by decide)) (cel_5 (kr_X8_netNumbered hk0 e2)) rfl) q_535 q_494 q_3 q_95 q_495 dk_X3_knots (rm_ok (by decide) (by decide)) hl.1 rfl (Nat.le_of_ble_eq_true rfl) dX8_countReadable_15 ⟨Nat.zero_le _, Nat.zero_le _⟩) hS (fun H locs hV hS => ?_)
        refine lv_aload_n hx hb dX8_countReadable_18 rfl (lv_at hl 0 rfl) ?_
        refine lv_iload_n hx hb dX8_countReadable_19 rfl (lv_at hl 2 rfl) ?_
        obtain ⟨q4, e4, hr⟩ := ob hr
        refine cal_i (run_V (As := [.int x2]) (rest := [.int q3, .int x1]) C hV hS (c_X8_dryPlaces l G b0 V k0 hk0 x2 q4 e4) (rcv hK hV (kd_lt hk0 (by decide)) (cel_1 hk0) rfl) q_785 q_787 q_42 q_94 q_788 dk_X8_dryPlaces (rm_ok (by decide) (by decide)) hl.1 rfl (Nat.le_of_ble_eq_true rfl) dX8_countReadable_20 ⟨Nat.zero_le _, Nat.zero_le _⟩) hS (fun H locs hV hS => ?_)
        refine lv_iand hx hb dX8_countReadable_23 ?_
        obtain ⟨q5, e5, hr⟩ := ob hr
        refine cal_i (run_S (As := [.int (q3 &&& q4)]) (rest := [.int x1]) C hV hS (c_J6_bitCount_0f7a4 l G b0 V (q3 &&& q4) q5 e5) q_536 q_500 q_104 q_501 dk_J6_bitCount_0f7a4 (rm_ok (by decide) (by decide)) hl.1 rfl (Nat.le_of_ble_eq_true rfl) dX8_countReadable_24 ⟨Nat.zero_le _, Nat.zero_le _⟩) hS (fun H locs hV hS => ?_)
        refine lv_iadd hx hb dX8_countReadable_27 ?_
        refine lv_istore_n (lv' := [(1, .int (x1 + q5)), (0, .ref (b0 + k0)), (2, .int x2)]) hx hb dX8_countReadable_28 rfl hl (by decide) rfl (fun ls hl => ?_)
        refine lv_iinc (v := x2 + 1) (lv' := [(2, .int (x2 + 1)), (1, .int (x1 + q5)), (0, .ref (b0 + k0))]) hx hb dX8_countReadable_29 hl (k := 2) rfl rfl (by decide) rfl (fun ls hl => ?_)
        refine lv_goto (tgt := 4) hx hb dX8_countReadable_32 (by decide) ?_
        exact ih k0 hk0 (x1 + q5) (x2 + 1) hr _ _ ls hV hS (lv_sub hl [2, 1, 0] rfl)
  unfold f_X8_countReadable at hr
  refine lv_iconst (v := 0) hx hb dX8_countReadable_0 (by decide) ?_
  refine lv_istore_n (lv' := [(1, .int 0), (0, .ref (b0 + k0))]) hx hb dX8_countReadable_1 rfl hl (by decide) rfl (fun ls hl => ?_)
  refine lv_iconst (v := 0) hx hb dX8_countReadable_2 (by decide) ?_
  refine lv_istore_n (lv' := [(2, .int 0), (1, .int 0), (0, .ref (b0 + k0))]) hx hb dX8_countReadable_3 rfl hl (by decide) rfl (fun ls hl => ?_)
  exact K_4 500 k0 hk0 0 0 hr _ _ ls hV hS (lv_sub hl [2, 1, 0] rfl)
set_option maxHeartbeats 4000000 in
set_option maxRecDepth 100000 in
theorem c_X8_countAllChapters (l : Launch) (G : LG) (b0 : Nat) (V : St) (k0 : Nat) (hk0 : kd k0 = 1) (res : Int32) (hr : f_X8_countAllChapters V k0 = some res) : Met l yX8_countAllChapters (wy yX8_countAllChapters cX8_countAllChapters 3 (some .int)) (rm 3) (va_Pc [.ref (b0 + k0)] (Iv G b0 V)) (QI G b0 res V) 0 0 (Ab b0) := by
  refine mk_m (by decide +kernel) (Nat.le_of_ble_eq_true rfl) ?_
  intro p e s m below meth c C hV hS ls hl
  obtain ⟨args, hargs⟩ : ∃ z, z = ([.ref (b0 + k0)] : List Value).toArray := ⟨_, rfl⟩
  rw [← hargs] at C ⊢
  obtain ⟨hx, hb, hrt, hml, hown, hts, hlocks, hK, hSv⟩ := id C
  have hl : lv_has ls 3 [(0, .ref (b0 + k0))] := hl
  have K_4 : ∀ (n : Nat) (k0 : Nat) (hk0 : kd k0 = 1) (x1 : Int32) (x2 : Int32), f_X8_countAllChapters_b4 n V k0 x1 x2 = some res → ∀ (H : Heap) (locs : List Loc) (ls : Array Slot), Hd G b0 V H → va_S (Ab b0) s.heap H locs → lv_has ls 3 [(0, .ref (b0 + k0)), (1, .int x1), (2, .int x2)] → W p l e (rm 3) s m args below meth c H locs 0 0 (MQ below (QI G b0 res V) args s 0 0 (Ab b0)) (F0 m 4 ls []) := by
    intro  n
    induction n with
    | zero =>
      intro k0 hk0 x1 x2 hr
      rw [f_X8_countAllChapters_b4] at hr
      cases hr
    | succ n ih =>
      intro k0 hk0 x1 x2 hr H locs ls hV hS hl
      rw [f_X8_countAllChapters_b4] at hr
      refine lv_iload_n hx hb dX8_countAllChapters_4 rfl (lv_at hl 2 rfl) ?_
      refine lv_iconst (v := 3) hx hb dX8_countAllChapters_5 (by decide) ?_
      refine lv_icmp_ge (tgt := 26) hx hb dX8_countAllChapters_6 (by decide) (fun b_1 => ?_) (fun b_1 => ?_)
      · have hr := it b_1 hr
        refine lv_iload_n hx hb dX8_countAllChapters_26 rfl (lv_at hl 1 rfl) ?_
        exact fin_i C hV hS (Option.some.inj hr) dX8_countAllChapters_27
      · have hr := ie b_1 hr
        refine lv_iload_n hx hb dX8_countAllChapters_9 rfl (lv_at hl 1 rfl) ?_
        refine lv_aload_n hx hb dX8_countAllChapters_10 rfl (lv_at hl 0 rfl) ?_
        refine lv_iload_n hx hb dX8_countAllChapters_11 rfl (lv_at hl 2 rfl) ?_
        obtain ⟨q2, e2, hr⟩ := ob hr
        refine cal_r (run_V (As := [.int x2]) (rest := [.int x1]) C hV hS (c_X8_netNumbered l G b0 V k0 hk0 x2 q2 e2) (rcv hK hV (kd_lt hk0 (by decide)) (cel_1 hk0) rfl) q_534 q_485 q_1 q_94 q_486 dk_X8_netNumbered (rm_ok (by decide) (by decide)) hl.1 rfl (Nat.le_of_ble_eq_true rfl) dX8_countAllChapters_12 ⟨Nat.zero_le _, Nat.zero_le _⟩) hS (fun H locs hV hS => ?_)
        obtain ⟨q3, e3, hr⟩ := ob hr
        refine cal_i (run_VN (As := []) (rest := [.int x1]) C hV hS (c_X3_countChapters l G b0 V q2 (kr_X8_netNumbered hk0 e2) q3 e3) (rcv hK hV (kd_lt (kr_X8_netNumbered hk0 e2) (by decide)) (cel_5 (kr_X8_netNumbered hk0 e2)) rfl) q_541 q_490 q_2 q_95 q_491 dk_X3_countChapters (rm_ok (by decide) (by decide)) hl.1 rfl (Nat.le_of_ble_eq_true rfl) dX8_countAllChapters_15 ⟨Nat.zero_le _, Nat.zero_le _⟩) hS (fun H locs hV hS => ?_)
        refine lv_iadd hx hb dX8_countAllChapters_18 ?_
        refine lv_istore_n (lv' := [(1, .int (x1 + q3)), (0, .ref (b0 + k0)), (2, .int x2)]) hx hb dX8_countAllChapters_19 rfl hl (by decide) rfl (fun ls hl => ?_)
        refine lv_iinc (v := x2 + 1) (lv' := [(2, .int (x2 + 1)), (1, .int (x1 + q3)), (0, .ref (b0 + k0))]) hx hb dX8_countAllChapters_20 hl (k := 2) rfl rfl (by decide) rfl (fun ls hl => ?_)
        refine lv_goto (tgt := 4) hx hb dX8_countAllChapters_23 (by decide) ?_
        exact ih k0 hk0 (x1 + q3) (x2 + 1) hr _ _ ls hV hS (lv_sub hl [2, 1, 0] rfl)
  unfold f_X8_countAllChapters at hr
  refine lv_iconst (v := 0) hx hb dX8_countAllChapters_0 (by decide) ?_
  refine lv_istore_n (lv' := [(1, .int 0), (0, .ref (b0 + k0))]) hx hb dX8_countAllChapters_1 rfl hl (by decide) rfl (fun ls hl => ?_)
  refine lv_iconst (v := 0) hx hb dX8_countAllChapters_2 (by decide) ?_
  refine lv_istore_n (lv' := [(2, .int 0), (1, .int 0), (0, .ref (b0 + k0))]) hx hb dX8_countAllChapters_3 rfl hl (by decide) rfl (fun ls hl => ?_)
  exact K_4 500 k0 hk0 0 0 hr _ _ ls hV hS (lv_sub hl [2, 1, 0] rfl)
set_option maxHeartbeats 4000000 in
set_option maxRecDepth 100000 in
theorem c_X8_countTorn (l : Launch) (G : LG) (b0 : Nat) (V : St) (k0 : Nat) (hk0 : kd k0 = 1) (res : Int32) (hr : f_X8_countTorn V k0 = some res) : Met l yX8_countTorn (wy yX8_countTorn cX8_countTorn 3 (some .int)) (rm 2) (va_Pc [.ref (b0 + k0)] (Iv G b0 V)) (QI G b0 res V) 0 0 (Ab b0) := by
  refine mk_m (by decide +kernel) (Nat.le_of_ble_eq_true rfl) ?_
  intro p e s m below meth c C hV hS ls hl
  obtain ⟨args, hargs⟩ : ∃ z, z = ([.ref (b0 + k0)] : List Value).toArray := ⟨_, rfl⟩
  rw [← hargs] at C ⊢
  obtain ⟨hx, hb, hrt, hml, hown, hts, hlocks, hK, hSv⟩ := id C
  have hl : lv_has ls 3 [(0, .ref (b0 + k0))] := hl
  have K_4 : ∀ (n : Nat) (k0 : Nat) (hk0 : kd k0 = 1) (x1 : Int32) (x2 : Int32), f_X8_countTorn_b4 n V k0 x1 x2 = some res → ∀ (H : Heap) (locs : List Loc) (ls : Array Slot), Hd G b0 V H → va_S (Ab b0) s.heap H locs → lv_has ls 3 [(0, .ref (b0 + k0)), (1, .int x1), (2, .int x2)] → W p l e (rm 2) s m args below meth c H locs 0 0 (MQ below (QI G b0 res V) args s 0 0 (Ab b0)) (F0 m 4 ls []) := by
    intro  n
    induction n with
    | zero =>
      intro k0 hk0 x1 x2 hr
      rw [f_X8_countTorn_b4] at hr
      cases hr
    | succ n ih =>
      intro k0 hk0 x1 x2 hr H locs ls hV hS hl
      rw [f_X8_countTorn_b4] at hr
      refine lv_iload_n hx hb dX8_countTorn_4 rfl (lv_at hl 2 rfl) ?_
      refine lv_iconst (v := 3) hx hb dX8_countTorn_5 (by decide) ?_
      refine lv_icmp_ge (tgt := 26) hx hb dX8_countTorn_6 (by decide) (fun b_1 => ?_) (fun b_1 => ?_)
      · have hr := it b_1 hr
        refine lv_iload_n hx hb dX8_countTorn_26 rfl (lv_at hl 1 rfl) ?_
        exact fin_i C hV hS (Option.some.inj hr) dX8_countTorn_27
      · have hr := ie b_1 hr
        refine lv_iload_n hx hb dX8_countTorn_9 rfl (lv_at hl 1 rfl) ?_
        refine lv_aload_n hx hb dX8_countTorn_10 rfl (lv_at hl 0 rfl) ?_
        refine lv_iload_n hx hb dX8_countTorn_11 rfl (lv_at hl 2 rfl) ?_
        obtain ⟨q2, e2, hr⟩ := ob hr
        refine cal_r (run_V (As := [.int x2]) (rest := [.int x1]) C hV hS (c_X8_netNumbered l G b0 V k0 hk0 x2 q2 e2) (rcv hK hV (kd_lt hk0 (by decide)) (cel_1 hk0) rfl) q_534 q_485 q_1 q_94 q_486 dk_X8_netNumbered (rm_ok (by decide) (by decide)) hl.1 rfl (Nat.le_of_ble_eq_true rfl) dX8_countTorn_12 ⟨Nat.zero_le _, Nat.zero_le _⟩) hS (fun H locs hV hS => ?_)
        obtain ⟨q3, e3, hr⟩ := ob hr
        refine cal_i (run_VN (As := []) (rest := [.int x1]) C hV hS (c_X3_countTorn l G b0 V q2 (kr_X8_netNumbered hk0 e2) q3 e3) (rcv hK hV (kd_lt (kr_X8_netNumbered hk0 e2) (by decide)) (cel_5 (kr_X8_netNumbered hk0 e2)) rfl) q_546 q_548 q_10 q_95 q_549 dk_X3_countTorn (rm_ok (by decide) (by decide)) hl.1 rfl (Nat.le_of_ble_eq_true rfl) dX8_countTorn_15 ⟨Nat.zero_le _, Nat.zero_le _⟩) hS (fun H locs hV hS => ?_)
        refine lv_iadd hx hb dX8_countTorn_18 ?_
        refine lv_istore_n (lv' := [(1, .int (x1 + q3)), (0, .ref (b0 + k0)), (2, .int x2)]) hx hb dX8_countTorn_19 rfl hl (by decide) rfl (fun ls hl => ?_)
        refine lv_iinc (v := x2 + 1) (lv' := [(2, .int (x2 + 1)), (1, .int (x1 + q3)), (0, .ref (b0 + k0))]) hx hb dX8_countTorn_20 hl (k := 2) rfl rfl (by decide) rfl (fun ls hl => ?_)
        refine lv_goto (tgt := 4) hx hb dX8_countTorn_23 (by decide) ?_
        exact ih k0 hk0 (x1 + q3) (x2 + 1) hr _ _ ls hV hS (lv_sub hl [2, 1, 0] rfl)
  unfold f_X8_countTorn at hr
  refine lv_iconst (v := 0) hx hb dX8_countTorn_0 (by decide) ?_
  refine lv_istore_n (lv' := [(1, .int 0), (0, .ref (b0 + k0))]) hx hb dX8_countTorn_1 rfl hl (by decide) rfl (fun ls hl => ?_)
  refine lv_iconst (v := 0) hx hb dX8_countTorn_2 (by decide) ?_
  refine lv_istore_n (lv' := [(2, .int 0), (1, .int 0), (0, .ref (b0 + k0))]) hx hb dX8_countTorn_3 rfl hl (by decide) rfl (fun ls hl => ?_)
  exact K_4 500 k0 hk0 0 0 hr _ _ ls hV hS (lv_sub hl [2, 1, 0] rfl)
set_option maxHeartbeats 4000000 in
set_option maxRecDepth 100000 in
theorem c_X8_sumTwine (l : Launch) (G : LG) (b0 : Nat) (V : St) (k0 : Nat) (hk0 : kd k0 = 1) (res : Int32) (hr : f_X8_sumTwine V k0 = some res) : Met l yX8_sumTwine (wy yX8_sumTwine cX8_sumTwine 3 (some .int)) (rm 1) (va_Pc [.ref (b0 + k0)] (Iv G b0 V)) (QI G b0 res V) 0 0 (Ab b0) := by
  refine mk_m (by decide +kernel) (Nat.le_of_ble_eq_true rfl) ?_
  intro p e s m below meth c C hV hS ls hl
  obtain ⟨args, hargs⟩ : ∃ z, z = ([.ref (b0 + k0)] : List Value).toArray := ⟨_, rfl⟩
  rw [← hargs] at C ⊢
  obtain ⟨hx, hb, hrt, hml, hown, hts, hlocks, hK, hSv⟩ := id C
  have hl : lv_has ls 3 [(0, .ref (b0 + k0))] := hl
  have K_4 : ∀ (n : Nat) (k0 : Nat) (hk0 : kd k0 = 1) (x1 : Int32) (x2 : Int32), f_X8_sumTwine_b4 n V k0 x1 x2 = some res → ∀ (H : Heap) (locs : List Loc) (ls : Array Slot), Hd G b0 V H → va_S (Ab b0) s.heap H locs → lv_has ls 3 [(0, .ref (b0 + k0)), (1, .int x1), (2, .int x2)] → W p l e (rm 1) s m args below meth c H locs 0 0 (MQ below (QI G b0 res V) args s 0 0 (Ab b0)) (F0 m 4 ls []) := by
    intro  n
    induction n with
    | zero =>
      intro k0 hk0 x1 x2 hr
      rw [f_X8_sumTwine_b4] at hr
      cases hr
    | succ n ih =>
      intro k0 hk0 x1 x2 hr H locs ls hV hS hl
      rw [f_X8_sumTwine_b4] at hr
      refine lv_iload_n hx hb dX8_sumTwine_4 rfl (lv_at hl 2 rfl) ?_
      refine lv_aload_n hx hb dX8_sumTwine_5 rfl (lv_at hl 0 rfl) ?_
      refine g_X8_3 (k := k0) C hV hk0 q_214 dX8_sumTwine_6 ?_
      refine lv_icmp_ge (tgt := 29) hx hb dX8_sumTwine_9 (by decide) (fun b_1 => ?_) (fun b_1 => ?_)
      · have hr := it b_1 hr
        refine lv_iload_n hx hb dX8_sumTwine_29 rfl (lv_at hl 1 rfl) ?_
        exact fin_i C hV hS (Option.some.inj hr) dX8_sumTwine_30
      · have hr := ie b_1 hr
        refine lv_iload_n hx hb dX8_sumTwine_12 rfl (lv_at hl 1 rfl) ?_
        refine lv_aload_n hx hb dX8_sumTwine_13 rfl (lv_at hl 0 rfl) ?_
        refine lv_iload_n hx hb dX8_sumTwine_14 rfl (lv_at hl 2 rfl) ?_
        obtain ⟨q2, e2, hr⟩ := ob hr
        refine cal_r (run_V (As := [.int x2]) (rest := [.int x1]) C hV hS (c_X8_editorNumbered l G b0 V k0 hk0 x2 q2 e2) (rcv hK hV (kd_lt hk0 (by decide)) (cel_1 hk0) rfl) q_555 q_557 q_12 q_94 q_558 dk_X8_editorNumbered (rm_ok (by decide) (by decide)) hl.1 rfl (Nat.le_of_ble_eq_true rfl) dX8_sumTwine_15 ⟨Nat.zero_le _, Nat.zero_le _⟩) hS (fun H locs hV hS => ?_)
        refine gn_X0_0 (k := q2) C hV (kr_X8_editorNumbered hk0 e2) q_181 dX8_sumTwine_18 ?_
        refine lv_iadd hx hb dX8_sumTwine_21 ?_
        refine lv_istore_n (lv' := [(1, .int (x1 + (V q2 0))), (0, .ref (b0 + k0)), (2, .int x2)]) hx hb dX8_sumTwine_22 rfl hl (by decide) rfl (fun ls hl => ?_)
        refine lv_iinc (v := x2 + 1) (lv' := [(2, .int (x2 + 1)), (1, .int (x1 + (V q2 0))), (0, .ref (b0 + k0))]) hx hb dX8_sumTwine_23 hl (k := 2) rfl rfl (by decide) rfl (fun ls hl => ?_)
        refine lv_goto (tgt := 4) hx hb dX8_sumTwine_26 (by decide) ?_
        exact ih k0 hk0 (x1 + (V q2 0)) (x2 + 1) hr _ _ ls hV hS (lv_sub hl [2, 1, 0] rfl)
  unfold f_X8_sumTwine at hr
  refine lv_iconst (v := 0) hx hb dX8_sumTwine_0 (by decide) ?_
  refine lv_istore_n (lv' := [(1, .int 0), (0, .ref (b0 + k0))]) hx hb dX8_sumTwine_1 rfl hl (by decide) rfl (fun ls hl => ?_)
  refine lv_iconst (v := 0) hx hb dX8_sumTwine_2 (by decide) ?_
  refine lv_istore_n (lv' := [(2, .int 0), (1, .int 0), (0, .ref (b0 + k0))]) hx hb dX8_sumTwine_3 rfl hl (by decide) rfl (fun ls hl => ?_)
  exact K_4 500 k0 hk0 0 0 hr _ _ ls hV hS (lv_sub hl [2, 1, 0] rfl)
set_option maxHeartbeats 4000000 in
set_option maxRecDepth 100000 in
theorem c_X8_countAsNoted (l : Launch) (G : LG) (b0 : Nat) (V : St) (k0 : Nat) (hk0 : kd k0 = 1) (res : Int32) (hr : f_X8_countAsNoted V k0 = some res) : Met l yX8_countAsNoted (wy yX8_countAsNoted cX8_countAsNoted 3 (some .int)) (rm 3) (va_Pc [.ref (b0 + k0)] (Iv G b0 V)) (QI G b0 res V) 0 0 (Ab b0) := by
  refine mk_m (by decide +kernel) (Nat.le_of_ble_eq_true rfl) ?_
  intro p e s m below meth c C hV hS ls hl
  obtain ⟨args, hargs⟩ : ∃ z, z = ([.ref (b0 + k0)] : List Value).toArray := ⟨_, rfl⟩
  rw [← hargs] at C ⊢
  obtain ⟨hx, hb, hrt, hml, hown, hts, hlocks, hK, hSv⟩ := id C
  have hl : lv_has ls 3 [(0, .ref (b0 + k0))] := hl
  have K_30 : ∀ (c_4 : St → Nat → Int32 → Int32 → Option (Int32)) (hc_4 : ∀ (k0 : Nat) (hk0 : kd k0 = 1) (x1 : Int32) (x2 : Int32), c_4 V k0 x1 x2 = some res → ∀ (H : Heap) (locs : List Loc) (ls : Array Slot), Hd G b0 V H → va_S (Ab b0) s.heap H locs → lv_has ls 3 [(0, .ref (b0 + k0)), (1, .int x1), (2, .int x2)] → W p l e (rm 3) s m args below meth c H locs 0 0 (MQ below (QI G b0 res V) args s 0 0 (Ab b0)) (F0 m 4 ls [])) (k0 : Nat) (hk0 : kd k0 = 1) (x2 : Int32) (y0 : Int32) (y1 : Int32), f_X8_countAsNoted_b30 c_4 V k0 x2 y0 y1 = some res → ∀ (H : Heap) (locs : List Loc) (ls : Array Slot), Hd G b0 V H → va_S (Ab b0) s.heap H locs → lv_has ls 3 [(0, .ref (b0 + k0)), (2, .int x2)] → W p l e (rm 3) s m args below meth c H locs 0 0 (MQ below (QI G b0 res V) args s 0 0 (Ab b0)) (F0 m 30 ls [.int y0, .int y1]) := by
    intro c_4 hc_4 k0 hk0 x2 y0 y1 hr H locs ls hV hS hl
    unfold f_X8_countAsNoted_b30 at hr
    refine lv_iadd hx hb dX8_countAsNoted_30 ?_
    refine lv_istore_n (lv' := [(1, .int (y1 + y0)), (0, .ref (b0 + k0)), (2, .int x2)]) hx hb dX8_countAsNoted_31 rfl hl (by decide) rfl (fun ls hl => ?_)
    refine lv_iinc (v := x2 + 1) (lv' := [(2, .int (x2 + 1)), (1, .int (y1 + y0)), (0, .ref (b0 + k0))]) hx hb dX8_countAsNoted_32 hl (k := 2) rfl rfl (by decide) rfl (fun ls hl => ?_)
    refine lv_goto (tgt := 4) hx hb dX8_countAsNoted_35 (by decide) ?_
    exact hc_4 k0 hk0 (y1 + y0) (x2 + 1) hr _ _ ls hV hS (lv_sub hl [2, 1, 0] rfl)
  have K_4 : ∀ (n : Nat) (k0 : Nat) (hk0 : kd k0 = 1) (x1 : Int32) (x2 : Int32), f_X8_countAsNoted_b4 n V k0 x1 x2 = some res → ∀ (H : Heap) (locs : List Loc) (ls : Array Slot), Hd G b0 V H → va_S (Ab b0) s.heap H locs → lv_has ls 3 [(0, .ref (b0 + k0)), (1, .int x1), (2, .int x2)] → W p l e (rm 3) s m args below meth c H locs 0 0 (MQ below (QI G b0 res V) args s 0 0 (Ab b0)) (F0 m 4 ls []) := by
    intro  n
    induction n with
    | zero =>
      intro k0 hk0 x1 x2 hr
      rw [f_X8_countAsNoted_b4] at hr
      cases hr
    | succ n ih =>
      intro k0 hk0 x1 x2 hr H locs ls hV hS hl
      rw [f_X8_countAsNoted_b4] at hr
      refine lv_iload_n hx hb dX8_countAsNoted_4 rfl (lv_at hl 2 rfl) ?_
      refine lv_aload_n hx hb dX8_countAsNoted_5 rfl (lv_at hl 0 rfl) ?_
      refine g_X8_4 (k := k0) C hV hk0 q_216 dX8_countAsNoted_6 ?_
      refine lv_icmp_ge (tgt := 38) hx hb dX8_countAsNoted_9 (by decide) (fun b_1 => ?_) (fun b_1 => ?_)
      · have hr := it b_1 hr
        refine lv_iload_n hx hb dX8_countAsNoted_38 rfl (lv_at hl 1 rfl) ?_
        exact fin_i C hV hS (Option.some.inj hr) dX8_countAsNoted_39
      · have hr := ie b_1 hr
        refine lv_iload_n hx hb dX8_countAsNoted_12 rfl (lv_at hl 1 rfl) ?_
        refine lv_aload_n hx hb dX8_countAsNoted_13 rfl (lv_at hl 0 rfl) ?_
        refine lv_aload_n hx hb dX8_countAsNoted_14 rfl (lv_at hl 0 rfl) ?_
        refine lv_iload_n hx hb dX8_countAsNoted_15 rfl (lv_at hl 2 rfl) ?_
        obtain ⟨q2, e2, hr⟩ := ob hr
        refine cal_r (run_V (As := [.int x2]) (rest := [.ref (b0 + k0), .int x1]) C hV hS (c_X8_noteNumbered l G b0 V k0 hk0 x2 q2 e2) (rcv hK hV (kd_lt hk0 (by decide)) (cel_1 hk0) rfl) q_563 q_565 q_14 q_94 q_566 dk_X8_noteNumbered (rm_ok (by decide) (by decide)) hl.1 rfl (Nat.le_of_ble_eq_true rfl) dX8_countAsNoted_16 ⟨Nat.zero_le _, Nat.zero_le _⟩) hS (fun H locs hV hS => ?_)
        obtain ⟨q3, e3, hr⟩ := ob hr
        refine cal_i (run_V (As := [.ref (b0 + q2)]) (rest := [.int x1]) C hV hS (c_X8_readsAsNoted l G b0 V k0 hk0 q2 (kr_X8_noteNumbered hk0 e2) q3 e3) (rcv hK hV (kd_lt hk0 (by decide)) (cel_1 hk0) rfl) q_567 q_569 q_15 q_94 q_570 dk_X8_readsAsNoted (rm_ok (by decide) (by decide)) hl.1 rfl (Nat.le_of_ble_eq_true rfl) dX8_countAsNoted_19 ⟨Nat.zero_le _, Nat.zero_le _⟩) hS (fun H locs hV hS => ?_)
        refine lv_if_eq (tgt := 29) hx hb dX8_countAsNoted_22 (by decide) (fun b_4 => ?_) (fun b_4 => ?_)
        · have hr := it b_4 hr
          refine lv_iconst (v := 0) hx hb dX8_countAsNoted_29 (by decide) ?_
          exact K_30 (fun V k0 x1 x2 => f_X8_countAsNoted_b4 n V k0 x1 x2) (fun k0 hk0 x1 x2 hr => ih k0 hk0 x1 x2 hr) k0 hk0 x2 0 x1 hr _ _ ls hV hS (lv_sub hl [0, 2] rfl)
        · have hr := ie b_4 hr
          refine lv_iconst (v := 1) hx hb dX8_countAsNoted_25 (by decide) ?_
          refine lv_goto (tgt := 30) hx hb dX8_countAsNoted_26 (by decide) ?_
          exact K_30 (fun V k0 x1 x2 => f_X8_countAsNoted_b4 n V k0 x1 x2) (fun k0 hk0 x1 x2 hr => ih k0 hk0 x1 x2 hr) k0 hk0 x2 1 x1 hr _ _ ls hV hS (lv_sub hl [0, 2] rfl)
  unfold f_X8_countAsNoted at hr
  refine lv_iconst (v := 0) hx hb dX8_countAsNoted_0 (by decide) ?_
  refine lv_istore_n (lv' := [(1, .int 0), (0, .ref (b0 + k0))]) hx hb dX8_countAsNoted_1 rfl hl (by decide) rfl (fun ls hl => ?_)
  refine lv_iconst (v := 0) hx hb dX8_countAsNoted_2 (by decide) ?_
  refine lv_istore_n (lv' := [(2, .int 0), (1, .int 0), (0, .ref (b0 + k0))]) hx hb dX8_countAsNoted_3 rfl hl (by decide) rfl (fun ls hl => ?_)
  exact K_4 500 k0 hk0 0 0 hr _ _ ls hV hS (lv_sub hl [2, 1, 0] rfl)
