set_option maxHeartbeats 4000000 in
set_option maxRecDepth 100000 in
theorem c_X7_isDigitNext (l : Launch) (G : LG) (b0 : Nat) (V : St) (res : Int32) (hr : f_X7_isDigitNext V = some res) : Met l yX7_isDigitNext (wy yX7_isDigitNext cX7_isDigitNext 1 (some .boolean)) (rm 1) (va_Pc [.ref (b0 + 192)] (Iv G b0 V)) (QI G b0 res V) 0 0 (Ab b0) := by
  refine mk_m (by decide +kernel) (Nat.le_of_ble_eq_true rfl) ?_
  intro p e s m below meth c C hV hS ls hl
  obtain ⟨args, hargs⟩ : ∃ z, z = ([.ref (b0 + 192)] : List Value).toArray := ⟨_, rfl⟩
  rw [← hargs] at C ⊢
  obtain ⟨hx, hb, hrt, hml, hown, hts, hlocks, hK, hSv⟩ := id C
  have hl : lv_has ls 1 [(0, .ref (b0 + 192))] := hl
  unfold f_X7_isDigitNext at hr
  refine lv_aload_n hx hb dX7_isDigitNext_0 rfl (lv_at hl 0 rfl) ?_
  obtain ⟨q1, e1, hr⟩ := ob hr
  refine cal_i (run_V (As := []) (rest := []) C hV hS (c_X7_isInText l G b0 V q1 e1) (rcv hK hV (kd_lt z_192 (by decide)) (cel_12 z_192) rfl) q_1187 q_1189 q_57 q_100 q_1190 dk_X7_isInText (rm_ok (by decide) (by decide)) hl.1 rfl (Nat.le_of_ble_eq_true rfl) dX7_isDigitNext_1 ⟨Nat.zero_le _, Nat.zero_le _⟩) hS (fun H locs hV hS => ?_)
  refine lv_if_eq (tgt := 39) hx hb dX7_isDigitNext_4 (by decide) (fun b_2 => ?_) (fun b_2 => ?_)
  · have hr := it b_2 hr
    refine lv_iconst (v := 0) hx hb dX7_isDigitNext_39 (by decide) ?_
    exact fin_z C hV hS (by decide) (Option.some.inj hr) dX7_isDigitNext_40
  · have hr := ie b_2 hr
    refine lv_aload_n hx hb dX7_isDigitNext_7 rfl (lv_at hl 0 rfl) ?_
    refine g_X7_0 C hV q_284 dX7_isDigitNext_8 ?_
    refine lv_aload_n hx hb dX7_isDigitNext_11 rfl (lv_at hl 0 rfl) ?_
    refine g_X7_2 C hV q_287 dX7_isDigitNext_12 ?_
    obtain ⟨j3, e3, hr⟩ := ob hr
    refine a_13 (k := 193) (i := (V 192 2)) (j := j3) C hV z_193 e3 dX7_isDigitNext_15 ?_
    refine lv_bipush (v := 48) hx hb dX7_isDigitNext_16 (by decide) ?_
    refine lv_icmp_lt (tgt := 39) hx hb dX7_isDigitNext_18 (by decide) (fun b_4 => ?_) (fun b_4 => ?_)
    · have hr := it b_4 hr
      refine lv_iconst (v := 0) hx hb dX7_isDigitNext_39 (by decide) ?_
      exact fin_z C hV hS (by decide) (Option.some.inj hr) dX7_isDigitNext_40
    · have hr := ie b_4 hr
      refine lv_aload_n hx hb dX7_isDigitNext_21 rfl (lv_at hl 0 rfl) ?_
      refine g_X7_0 C hV q_284 dX7_isDigitNext_22 ?_
      refine lv_aload_n hx hb dX7_isDigitNext_25 rfl (lv_at hl 0 rfl) ?_
      refine g_X7_2 C hV q_287 dX7_isDigitNext_26 ?_
      obtain ⟨j5, e5, hr⟩ := ob hr
      refine a_13 (k := 193) (i := (V 192 2)) (j := j5) C hV z_193 e5 dX7_isDigitNext_29 ?_
      refine lv_bipush (v := 57) hx hb dX7_isDigitNext_30 (by decide) ?_
      refine lv_icmp_gt (tgt := 39) hx hb dX7_isDigitNext_32 (by decide) (fun b_6 => ?_) (fun b_6 => ?_)
      · have hr := it b_6 hr
        refine lv_iconst (v := 0) hx hb dX7_isDigitNext_39 (by decide) ?_
        exact fin_z C hV hS (by decide) (Option.some.inj hr) dX7_isDigitNext_40
      · have hr := ie b_6 hr
        refine lv_iconst (v := 1) hx hb dX7_isDigitNext_35 (by decide) ?_
        refine lv_goto (tgt := 40) hx hb dX7_isDigitNext_36 (by decide) ?_
        exact fin_z C hV hS (by decide) (Option.some.inj hr) dX7_isDigitNext_40
set_option maxHeartbeats 4000000 in
set_option maxRecDepth 100000 in
theorem c_X7_readNumber (l : Launch) (G : LG) (b0 : Nat) (V : St) (x1 : Int32) (res : Int32 × St) (hr : f_X7_readNumber V x1 = some res) : Met l yX7_readNumber (wy yX7_readNumber cX7_readNumber 5 (some .int)) (rm 2) (va_Pc [.ref (b0 + 192), .int x1] (Iv G b0 V)) (QI G b0 res.1 res.2) 0 0 (Ab b0) := by
  refine mk_m (by decide +kernel) (Nat.le_of_ble_eq_true rfl) ?_
  intro p e s m below meth c C hV hS ls hl
  obtain ⟨args, hargs⟩ : ∃ z, z = ([.ref (b0 + 192), .int x1] : List Value).toArray := ⟨_, rfl⟩
  rw [← hargs] at C ⊢
  obtain ⟨hx, hb, hrt, hml, hown, hts, hlocks, hK, hSv⟩ := id C
  have hl : lv_has ls 5 [(0, .ref (b0 + 192)), (1, .int x1)] := hl
  have K_15 : ∀ (n : Nat) (V : St) (x2 : Int32) (x3 : Int32) (x4 : Int32), f_X7_readNumber_b15 n V x2 x3 x4 = some res → ∀ (H : Heap) (locs : List Loc) (ls : Array Slot), Hd G b0 V H → va_S (Ab b0) s.heap H locs → lv_has ls 5 [(0, .ref (b0 + 192)), (2, .int x2), (3, .int x3), (4, .int x4)] → W p l e (rm 2) s m args below meth c H locs 0 0 (MQ below (QI G b0 res.1 res.2) args s 0 0 (Ab b0)) (F0 m 15 ls []) := by
    intro  n
    induction n with
    | zero =>
      intro V x2 x3 x4 hr
      rw [f_X7_readNumber_b15] at hr
      cases hr
    | succ n ih =>
      intro V x2 x3 x4 hr H locs ls hV hS hl
      rw [f_X7_readNumber_b15] at hr
      refine lv_iload hx hb dX7_readNumber_15 (lv_at hl 3 rfl) ?_
      refine lv_iload_n hx hb dX7_readNumber_17 rfl (lv_at hl 2 rfl) ?_
      refine lv_icmp_ge (tgt := 62) hx hb dX7_readNumber_18 (by decide) (fun b_1 => ?_) (fun b_1 => ?_)
      · have hr := it b_1 hr
        refine lv_iload_n hx hb dX7_readNumber_62 rfl (lv_at hl 1 rfl) ?_
        rw [← Option.some.inj hr]
        exact fin_i C hV hS rfl dX7_readNumber_63
      · have hr := ie b_1 hr
        refine lv_aload_n hx hb dX7_readNumber_21 rfl (lv_at hl 0 rfl) ?_
        obtain ⟨q2, e2, hr⟩ := ob hr
        refine cal_i (run_V (As := []) (rest := []) C hV hS (c_X7_isDigitNext l G b0 V q2 e2) (rcv hK hV (kd_lt z_192 (by decide)) (cel_12 z_192) rfl) q_1183 q_1185 q_56 q_100 q_1186 dk_X7_isDigitNext (rm_ok (by decide) (by decide)) hl.1 rfl (Nat.le_of_ble_eq_true rfl) dX7_readNumber_22 ⟨Nat.zero_le _, Nat.zero_le _⟩) hS (fun H locs hV hS => ?_)
        refine lv_if_eq (tgt := 62) hx hb dX7_readNumber_25 (by decide) (fun b_3 => ?_) (fun b_3 => ?_)
        · have hr := it b_3 hr
          refine lv_iload_n hx hb dX7_readNumber_62 rfl (lv_at hl 1 rfl) ?_
          rw [← Option.some.inj hr]
          exact fin_i C hV hS rfl dX7_readNumber_63
        · have hr := ie b_3 hr
          refine lv_bipush (v := 10) hx hb dX7_readNumber_28 (by decide) ?_
          refine lv_iload_n hx hb dX7_readNumber_30 rfl (lv_at hl 1 rfl) ?_
          refine lv_imul hx hb dX7_readNumber_31 ?_
          refine lv_aload_n hx hb dX7_readNumber_32 rfl (lv_at hl 0 rfl) ?_
          refine g_X7_0 C hV q_284 dX7_readNumber_33 ?_
          refine lv_aload_n hx hb dX7_readNumber_36 rfl (lv_at hl 0 rfl) ?_
          refine g_X7_2 C hV q_287 dX7_readNumber_37 ?_
          obtain ⟨j4, e4, hr⟩ := ob hr
          refine a_13 (k := 193) (i := (V 192 2)) (j := j4) C hV z_193 e4 dX7_readNumber_40 ?_
          refine lv_bipush (v := 48) hx hb dX7_readNumber_41 (by decide) ?_
          refine lv_isub hx hb dX7_readNumber_43 ?_
          refine lv_iadd hx hb dX7_readNumber_44 ?_
          refine lv_istore_n (lv' := [(2, .int ((10 * x2) + ((V 193 j4) - 48))), (0, .ref (b0 + 192)), (3, .int x3), (4, .int x4)]) hx hb dX7_readNumber_45 rfl hl (by decide) rfl (fun ls hl => ?_)
          refine lv_aload_n hx hb dX7_readNumber_46 rfl (lv_at hl 1 rfl) ?_
          refine lv_dup hx hb dX7_readNumber_47 rfl ?_
          refine g_X7_2 C hV q_287 dX7_readNumber_48 ?_
          refine lv_iconst (v := 1) hx hb dX7_readNumber_51 (by decide) ?_
          refine lv_iadd hx hb dX7_readNumber_52 ?_
          refine p_X7_2 (x := ((V 192 2) + 1)) C hV hS q_287 dX7_readNumber_53 (fun H locs hV hS => ?_)
          refine lv_iinc (v := x4 + 1) (lv' := [(4, .int (x4 + 1)), (2, .int ((10 * x2) + ((V 193 j4) - 48))), (0, .ref (b0 + 192)), (3, .int x3)]) hx hb dX7_readNumber_56 hl (k := 3) rfl rfl (by decide) rfl (fun ls hl => ?_)
          refine lv_goto (tgt := 15) hx hb dX7_readNumber_59 (by decide) ?_
          exact ih _ ((10 * x2) + ((V 193 j4) - 48)) x3 (x4 + 1) hr _ _ ls hV hS (lv_sub hl [2, 1, 3, 0] rfl)
  have K_11 : ∀ (V : St) (x2 : Int32) (y0 : Int32), f_X7_readNumber_b11 V x2 y0 = some res → ∀ (H : Heap) (locs : List Loc) (ls : Array Slot), Hd G b0 V H → va_S (Ab b0) s.heap H locs → lv_has ls 5 [(0, .ref (b0 + 192)), (2, .int x2)] → W p l e (rm 2) s m args below meth c H locs 0 0 (MQ below (QI G b0 res.1 res.2) args s 0 0 (Ab b0)) (F0 m 11 ls [.int y0]) := by
    intro V x2 y0 hr H locs ls hV hS hl
    unfold f_X7_readNumber_b11 at hr
    refine lv_istore_n (lv' := [(3, .int y0), (0, .ref (b0 + 192)), (2, .int x2)]) hx hb dX7_readNumber_11 rfl hl (by decide) rfl (fun ls hl => ?_)
    refine lv_iconst (v := 0) hx hb dX7_readNumber_12 (by decide) ?_
    refine lv_istore (lv' := [(4, .int 0), (3, .int y0), (0, .ref (b0 + 192)), (2, .int x2)]) hx hb dX7_readNumber_13 hl (by decide) rfl (fun ls hl => ?_)
    exact K_15 500 _ x2 y0 0 hr _ _ ls hV hS (lv_sub hl [2, 3, 1, 0] rfl)
  unfold f_X7_readNumber at hr
  refine lv_iconst (v := 0) hx hb dX7_readNumber_0 (by decide) ?_
  refine lv_istore_n (lv' := [(2, .int 0), (0, .ref (b0 + 192)), (1, .int x1)]) hx hb dX7_readNumber_1 rfl hl (by decide) rfl (fun ls hl => ?_)
  refine lv_iload_n hx hb dX7_readNumber_2 rfl (lv_at hl 2 rfl) ?_
  refine lv_if_eq (tgt := 10) hx hb dX7_readNumber_3 (by decide) (fun b_5 => ?_) (fun b_5 => ?_)
  · have hr := it b_5 hr
    refine lv_iconst (v := 1) hx hb dX7_readNumber_10 (by decide) ?_
    exact K_11 _ 0 1 hr _ _ ls hV hS (lv_sub hl [1, 0] rfl)
  · have hr := ie b_5 hr
    refine lv_iconst (v := 2) hx hb dX7_readNumber_6 (by decide) ?_
    refine lv_goto (tgt := 11) hx hb dX7_readNumber_7 (by decide) ?_
    exact K_11 _ 0 2 hr _ _ ls hV hS (lv_sub hl [1, 0] rfl)
set_option maxHeartbeats 4000000 in
set_option maxRecDepth 100000 in
theorem c_X7_isNext (l : Launch) (G : LG) (b0 : Nat) (V : St) (x1 : Int32) (res : Int32) (hr : f_X7_isNext V x1 = some res) : Met l yX7_isNext (wy yX7_isNext cX7_isNext 2 (some .boolean)) (rm 1) (va_Pc [.ref (b0 + 192), .int x1] (Iv G b0 V)) (QI G b0 res V) 0 0 (Ab b0) := by
  refine mk_m (by decide +kernel) (Nat.le_of_ble_eq_true rfl) ?_
  intro p e s m below meth c C hV hS ls hl
  obtain ⟨args, hargs⟩ : ∃ z, z = ([.ref (b0 + 192), .int x1] : List Value).toArray := ⟨_, rfl⟩
  rw [← hargs] at C ⊢
  obtain ⟨hx, hb, hrt, hml, hown, hts, hlocks, hK, hSv⟩ := id C
  have hl : lv_has ls 2 [(0, .ref (b0 + 192)), (1, .int x1)] := hl
  unfold f_X7_isNext at hr
  refine lv_aload_n hx hb dX7_isNext_0 rfl (lv_at hl 0 rfl) ?_
  obtain ⟨q1, e1, hr⟩ := ob hr
  refine cal_i (run_V (As := []) (rest := []) C hV hS (c_X7_isInText l G b0 V q1 e1) (rcv hK hV (kd_lt z_192 (by decide)) (cel_12 z_192) rfl) q_1187 q_1189 q_57 q_100 q_1190 dk_X7_isInText (rm_ok (by decide) (by decide)) hl.1 rfl (Nat.le_of_ble_eq_true rfl) dX7_isNext_1 ⟨Nat.zero_le _, Nat.zero_le _⟩) hS (fun H locs hV hS => ?_)
  refine lv_if_eq (tgt := 24) hx hb dX7_isNext_4 (by decide) (fun b_2 => ?_) (fun b_2 => ?_)
  · have hr := it b_2 hr
    refine lv_iconst (v := 0) hx hb dX7_isNext_24 (by decide) ?_
    exact fin_z C hV hS (by decide) (Option.some.inj hr) dX7_isNext_25
  · have hr := ie b_2 hr
    refine lv_aload_n hx hb dX7_isNext_7 rfl (lv_at hl 0 rfl) ?_
    refine g_X7_0 C hV q_284 dX7_isNext_8 ?_
    refine lv_aload_n hx hb dX7_isNext_11 rfl (lv_at hl 0 rfl) ?_
    refine g_X7_2 C hV q_287 dX7_isNext_12 ?_
    obtain ⟨j3, e3, hr⟩ := ob hr
    refine a_13 (k := 193) (i := (V 192 2)) (j := j3) C hV z_193 e3 dX7_isNext_15 ?_
    refine lv_iload_n hx hb dX7_isNext_16 rfl (lv_at hl 1 rfl) ?_
    refine lv_icmp_ne (tgt := 24) hx hb dX7_isNext_17 (by decide) (fun b_4 => ?_) (fun b_4 => ?_)
    · have hr := ie b_4 hr
      refine lv_iconst (v := 0) hx hb dX7_isNext_24 (by decide) ?_
      exact fin_z C hV hS (by decide) (Option.some.inj hr) dX7_isNext_25
    · have hr := it b_4 hr
      refine lv_iconst (v := 1) hx hb dX7_isNext_20 (by decide) ?_
      refine lv_goto (tgt := 25) hx hb dX7_isNext_21 (by decide) ?_
      exact fin_z C hV hS (by decide) (Option.some.inj hr) dX7_isNext_25
set_option maxHeartbeats 4000000 in
set_option maxRecDepth 100000 in
theorem c_X7_readForm (l : Launch) (G : LG) (b0 : Nat) (V : St) (t1 : Nat) (x2 : Int32) (res : Int32 × St) (hr : f_X7_readForm V t1 x2 = some res) : Met l yX7_readForm (wy yX7_readForm cX7_readForm 6 (some .boolean)) (rm 5) (va_Pc [.ref (b0 + 192), .ref (G.2.2.1 t1), .int x2] (Iv G b0 V)) (QI G b0 res.1 res.2) 0 0 (Ab b0) := by
  refine mk_m (by decide +kernel) (Nat.le_of_ble_eq_true rfl) ?_
  intro p e s m below meth c C hV hS ls hl
  obtain ⟨args, hargs⟩ : ∃ z, z = ([.ref (b0 + 192), .ref (G.2.2.1 t1), .int x2] : List Value).toArray := ⟨_, rfl⟩
  rw [← hargs] at C ⊢
  obtain ⟨hx, hb, hrt, hml, hown, hts, hlocks, hK, hSv⟩ := id C
  have hl : lv_has ls 6 [(0, .ref (b0 + 192)), (1, .ref (G.2.2.1 t1)), (2, .int x2)] := hl
  have K_97 : ∀ (c_5 : St → Nat → Int32 → Int32 → Int32 → Option (Int32 × St)) (hc_5 : ∀ (V : St) (t1 : Nat) (x2 : Int32) (x3 : Int32) (x4 : Int32), c_5 V t1 x2 x3 x4 = some res → ∀ (H : Heap) (locs : List Loc) (ls : Array Slot), Hd G b0 V H → va_S (Ab b0) s.heap H locs → lv_has ls 6 [(0, .ref (b0 + 192)), (1, .ref (G.2.2.1 t1)), (2, .int x2), (3, .int x3), (4, .int x4)] → W p l e (rm 5) s m args below meth c H locs 0 0 (MQ below (QI G b0 res.1 res.2) args s 0 0 (Ab b0)) (F0 m 5 ls [])) (V : St) (t1 : Nat) (x2 : Int32) (x3 : Int32) (x4 : Int32), f_X7_readForm_b97 c_5 V t1 x2 x3 x4 = some res → ∀ (H : Heap) (locs : List Loc) (ls : Array Slot), Hd G b0 V H → va_S (Ab b0) s.heap H locs → lv_has ls 6 [(0, .ref (b0 + 192)), (1, .ref (G.2.2.1 t1)), (2, .int x2), (3, .int x3), (4, .int x4)] → W p l e (rm 5) s m args below meth c H locs 0 0 (MQ below (QI G b0 res.1 res.2) args s 0 0 (Ab b0)) (F0 m 97 ls []) := by
    intro c_5 hc_5 V t1 x2 x3 x4 hr H locs ls hV hS hl
    unfold f_X7_readForm_b97 at hr
    refine lv_iinc (v := x4 + 1) (lv' := [(4, .int (x4 + 1)), (0, .ref (b0 + 192)), (1, .ref (G.2.2.1 t1)), (2, .int x2), (3, .int x3)]) hx hb dX7_readForm_97 hl (k := 4) rfl rfl (by decide) rfl (fun ls hl => ?_)
    refine lv_goto (tgt := 5) hx hb dX7_readForm_100 (by decide) ?_
    exact hc_5 _ t1 x2 x3 (x4 + 1) hr _ _ ls hV hS (lv_sub hl [1, 2, 3, 4, 0] rfl)
  have K_61 : ∀ (c_5 : St → Nat → Int32 → Int32 → Int32 → Option (Int32 × St)) (hc_5 : ∀ (V : St) (t1 : Nat) (x2 : Int32) (x3 : Int32) (x4 : Int32), c_5 V t1 x2 x3 x4 = some res → ∀ (H : Heap) (locs : List Loc) (ls : Array Slot), Hd G b0 V H → va_S (Ab b0) s.heap H locs → lv_has ls 6 [(0, .ref (b0 + 192)), (1, .ref (G.2.2.1 t1)), (2, .int x2), (3, .int x3), (4, .int x4)] → W p l e (rm 5) s m args below meth c H locs 0 0 (MQ below (QI G b0 res.1 res.2) args s 0 0 (Ab b0)) (F0 m 5 ls [])) (V : St) (t1 : Nat) (x2 : Int32) (x3 : Int32) (x4 : Int32) (y0 : Int32) (y2 : Int32) (y3 : Int32), f_X7_readForm_b61 c_5 V t1 x2 x3 x4 y0 y2 y3 = some res → ∀ (H : Heap) (locs : List Loc) (ls : Array Slot), Hd G b0 V H → va_S (Ab b0) s.heap H locs → lv_has ls 6 [(0, .ref (b0 + 192)), (1, .ref (G.2.2.1 t1)), (2, .int x2), (3, .int x3), (4, .int x4)] → W p l e (rm 5) s m args below meth c H locs 0 0 (MQ below (QI G b0 res.1 res.2) args s 0 0 (Ab b0)) (F0 m 61 ls [.int y0, .ref (b0 + 192), .int y2, .int y3, .ref (b0 + 192)]) := by
    intro c_5 hc_5 V t1 x2 x3 x4 y0 y2 y3 hr H locs ls hV hS hl
    unfold f_X7_readForm_b61 at hr
    obtain ⟨q1, e1, hr⟩ := ob hr
    refine cal_i (run_V (As := [.int y0]) (rest := [.int y2, .int y3, .ref (b0 + 192)]) C hV hS (c_X7_readNumber l G b0 V y0 q1 e1) (rcv hK hV (kd_lt z_192 (by decide)) (cel_12 z_192) rfl) q_1191 q_1193 q_58 q_100 q_1194 dk_X7_readNumber (rm_ok (by decide) (by decide)) hl.1 rfl (Nat.le_of_ble_eq_true rfl) dX7_readForm_61 ⟨Nat.zero_le _, Nat.zero_le _⟩) hS (fun H locs hV hS => ?_)
    obtain ⟨q2, e2, hr⟩ := ob hr
    refine cal_v (run_V (As := [.int y3, .int y2, .int q1.1]) (rest := []) C hV hS (c_X7_putNumber l G b0 q1.2 y3 y2 q1.1 q2 e2) (rcv hK hV (kd_lt z_192 (by decide)) (cel_12 z_192) rfl) q_1195 q_1197 q_59 q_100 q_1198 dk_X7_putNumber (rm_ok (by decide) (by decide)) hl.1 rfl (Nat.le_of_ble_eq_true rfl) dX7_readForm_64 ⟨Nat.zero_le _, Nat.zero_le _⟩) hS (fun H locs hV hS => ?_)
    refine lv_iinc (v := x3 + 1) (lv' := [(3, .int (x3 + 1)), (0, .ref (b0 + 192)), (1, .ref (G.2.2.1 t1)), (2, .int x2), (4, .int x4)]) hx hb dX7_readForm_67 hl (k := 3) rfl rfl (by decide) rfl (fun ls hl => ?_)
    refine lv_goto (tgt := 97) hx hb dX7_readForm_70 (by decide) ?_
    exact K_97 c_5 hc_5 _ t1 x2 (x3 + 1) x4 hr _ _ ls hV hS (lv_sub hl [1, 2, 3, 0, 4] rfl)
  have K_36 : ∀ (c_5 : St → Nat → Int32 → Int32 → Int32 → Option (Int32 × St)) (hc_5 : ∀ (V : St) (t1 : Nat) (x2 : Int32) (x3 : Int32) (x4 : Int32), c_5 V t1 x2 x3 x4 = some res → ∀ (H : Heap) (locs : List Loc) (ls : Array Slot), Hd G b0 V H → va_S (Ab b0) s.heap H locs → lv_has ls 6 [(0, .ref (b0 + 192)), (1, .ref (G.2.2.1 t1)), (2, .int x2), (3, .int x3), (4, .int x4)] → W p l e (rm 5) s m args below meth c H locs 0 0 (MQ below (QI G b0 res.1 res.2) args s 0 0 (Ab b0)) (F0 m 5 ls [])) (V : St) (t1 : Nat) (x2 : Int32) (x3 : Int32) (x4 : Int32) (x5 : Int32), f_X7_readForm_b36 c_5 V t1 x2 x3 x4 x5 = some res → ∀ (H : Heap) (locs : List Loc) (ls : Array Slot), Hd G b0 V H → va_S (Ab b0) s.heap H locs → lv_has ls 6 [(0, .ref (b0 + 192)), (1, .ref (G.2.2.1 t1)), (2, .int x2), (3, .int x3), (4, .int x4), (5, .int x5)] → W p l e (rm 5) s m args below meth c H locs 0 0 (MQ below (QI G b0 res.1 res.2) args s 0 0 (Ab b0)) (F0 m 36 ls []) := by
    intro c_5 hc_5 V t1 x2 x3 x4 x5 hr H locs ls hV hS hl
    unfold f_X7_readForm_b36 at hr
    refine lv_aload_n hx hb dX7_readForm_36 rfl (lv_at hl 0 rfl) ?_
    obtain ⟨q3, e3, hr⟩ := ob hr
    refine cal_i (run_V (As := []) (rest := []) C hV hS (c_X7_isDigitNext l G b0 V q3 e3) (rcv hK hV (kd_lt z_192 (by decide)) (cel_12 z_192) rfl) q_1183 q_1185 q_56 q_100 q_1186 dk_X7_isDigitNext (rm_ok (by decide) (by decide)) hl.1 rfl (Nat.le_of_ble_eq_true rfl) dX7_readForm_37 ⟨Nat.zero_le _, Nat.zero_le _⟩) hS (fun H locs hV hS => ?_)
    refine lv_if_ne (tgt := 45) hx hb dX7_readForm_40 (by decide) (fun b_4 => ?_) (fun b_4 => ?_)
    · have hr := ie b_4 hr
      refine lv_aload_n hx hb dX7_readForm_45 rfl (lv_at hl 0 rfl) ?_
      refine lv_iload_n hx hb dX7_readForm_46 rfl (lv_at hl 2 rfl) ?_
      refine lv_iload_n hx hb dX7_readForm_47 rfl (lv_at hl 3 rfl) ?_
      refine lv_aload_n hx hb dX7_readForm_48 rfl (lv_at hl 0 rfl) ?_
      refine lv_iload hx hb dX7_readForm_49 (lv_at hl 5 rfl) ?_
      refine lv_bipush (v := 78) hx hb dX7_readForm_51 (by decide) ?_
      refine lv_icmp_ne (tgt := 60) hx hb dX7_readForm_53 (by decide) (fun b_5 => ?_) (fun b_5 => ?_)
      · have hr := ie b_5 hr
        refine lv_iconst (v := 0) hx hb dX7_readForm_60 (by decide) ?_
        exact K_61 c_5 hc_5 _ t1 x2 x3 x4 0 x3 x2 hr _ _ ls hV hS (lv_sub hl [0, 1, 2, 3, 4] rfl)
      · have hr := it b_5 hr
        refine lv_iconst (v := 1) hx hb dX7_readForm_56 (by decide) ?_
        refine lv_goto (tgt := 61) hx hb dX7_readForm_57 (by decide) ?_
        exact K_61 c_5 hc_5 _ t1 x2 x3 x4 1 x3 x2 hr _ _ ls hV hS (lv_sub hl [0, 1, 2, 3, 4] rfl)
    · have hr := it b_4 hr
      refine lv_iconst (v := 0) hx hb dX7_readForm_43 (by decide) ?_
      rw [← Option.some.inj hr]
      exact fin_z C hV hS (by decide) rfl dX7_readForm_44
  have K_5 : ∀ (n : Nat) (V : St) (t1 : Nat) (x2 : Int32) (x3 : Int32) (x4 : Int32), f_X7_readForm_b5 n V t1 x2 x3 x4 = some res → ∀ (H : Heap) (locs : List Loc) (ls : Array Slot), Hd G b0 V H → va_S (Ab b0) s.heap H locs → lv_has ls 6 [(0, .ref (b0 + 192)), (1, .ref (G.2.2.1 t1)), (2, .int x2), (3, .int x3), (4, .int x4)] → W p l e (rm 5) s m args below meth c H locs 0 0 (MQ below (QI G b0 res.1 res.2) args s 0 0 (Ab b0)) (F0 m 5 ls []) := by
    intro  n
    induction n with
    | zero =>
      intro V t1 x2 x3 x4 hr
      rw [f_X7_readForm_b5] at hr
      cases hr
    | succ n ih =>
      intro V t1 x2 x3 x4 hr H locs ls hV hS hl
      rw [f_X7_readForm_b5] at hr
      refine lv_iload hx hb dX7_readForm_5 (lv_at hl 4 rfl) ?_
      refine lv_aload_n hx hb dX7_readForm_7 rfl (lv_at hl 1 rfl) ?_
      obtain ⟨q6, e6, hr⟩ := ob hr
      refine cal_i (run_V (As := []) (rest := [.int x4]) C hV hS (c_J0_length_8abf5 l G b0 V t1 q6 e6) (rcs_J0_length_8abf5 hSv hS e6) q_1181 q_954 q_955 q_111 q_956 dk_J0_length_8abf5 (rm_ok (by decide) (by decide)) hl.1 rfl (Nat.le_of_ble_eq_true rfl) dX7_readForm_8 ⟨Nat.zero_le _, Nat.zero_le _⟩) hS (fun H locs hV hS => ?_)
      refine lv_icmp_ge (tgt := 103) hx hb dX7_readForm_11 (by decide) (fun b_7 => ?_) (fun b_7 => ?_)
      · have hr := it b_7 hr
        refine lv_iconst (v := 1) hx hb dX7_readForm_103 (by decide) ?_
        rw [← Option.some.inj hr]
        exact fin_z C hV hS (by decide) rfl dX7_readForm_104
      · have hr := ie b_7 hr
        refine lv_aload_n hx hb dX7_readForm_14 rfl (lv_at hl 1 rfl) ?_
        refine lv_iload hx hb dX7_readForm_15 (lv_at hl 4 rfl) ?_
        obtain ⟨q8, e8, hr⟩ := ob hr
        refine cal_i (run_V (As := [.int x4]) (rest := []) C hV hS (c_J0_charAt_5068e l G b0 V t1 x4 q8 e8) (rcs_J0_charAt_5068e hSv hS e8) q_1182 q_1096 q_1097 q_111 q_1098 dk_J0_charAt_5068e (rm_ok (by decide) (by decide)) hl.1 rfl (Nat.le_of_ble_eq_true rfl) dX7_readForm_17 ⟨Nat.zero_le _, Nat.zero_le _⟩) hS (fun H locs hV hS => ?_)
        refine lv_istore (lv' := [(5, .int q8), (0, .ref (b0 + 192)), (1, .ref (G.2.2.1 t1)), (2, .int x2), (3, .int x3), (4, .int x4)]) hx hb dX7_readForm_20 hl (by decide) rfl (fun ls hl => ?_)
        refine lv_iload hx hb dX7_readForm_22 (lv_at hl 0 rfl) ?_
        refine lv_bipush (v := 68) hx hb dX7_readForm_24 (by decide) ?_
        refine lv_icmp_eq (tgt := 36) hx hb dX7_readForm_26 (by decide) (fun b_9 => ?_) (fun b_9 => ?_)
        · have hr := it b_9 hr
          exact K_36 (fun V t1 x2 x3 x4 => f_X7_readForm_b5 n V t1 x2 x3 x4) (fun V t1 x2 x3 x4 hr => ih V t1 x2 x3 x4 hr) _ t1 x2 x3 x4 q8 hr _ _ ls hV hS (lv_sub hl [1, 2, 3, 4, 5, 0] rfl)
        · have hr := ie b_9 hr
          refine lv_iload hx hb dX7_readForm_29 (lv_at hl 0 rfl) ?_
          refine lv_bipush (v := 78) hx hb dX7_readForm_31 (by decide) ?_
          refine lv_icmp_ne (tgt := 73) hx hb dX7_readForm_33 (by decide) (fun b_10 => ?_) (fun b_10 => ?_)
          · have hr := ie b_10 hr
            refine lv_aload_n hx hb dX7_readForm_73 rfl (lv_at hl 1 rfl) ?_
            refine lv_iload hx hb dX7_readForm_74 (lv_at hl 0 rfl) ?_
            obtain ⟨q11, e11, hr⟩ := ob hr
            refine cal_i (run_V (As := [.int q8]) (rest := []) C hV hS (c_X7_isNext l G b0 V q8 q11 e11) (rcv hK hV (kd_lt z_192 (by decide)) (cel_12 z_192) rfl) q_1199 q_1201 q_60 q_100 q_1202 dk_X7_isNext (rm_ok (by decide) (by decide)) hl.1 rfl (Nat.le_of_ble_eq_true rfl) dX7_readForm_76 ⟨Nat.zero_le _, Nat.zero_le _⟩) hS (fun H locs hV hS => ?_)
            refine lv_if_eq (tgt := 95) hx hb dX7_readForm_79 (by decide) (fun b_12 => ?_) (fun b_12 => ?_)
            · have hr := it b_12 hr
              refine lv_iconst (v := 0) hx hb dX7_readForm_95 (by decide) ?_
              rw [← Option.some.inj hr]
              exact fin_z C hV hS (by decide) rfl dX7_readForm_96
            · have hr := ie b_12 hr
              refine lv_aload_n hx hb dX7_readForm_82 rfl (lv_at hl 1 rfl) ?_
              refine lv_dup hx hb dX7_readForm_83 rfl ?_
              refine g_X7_2 C hV q_287 dX7_readForm_84 ?_
              refine lv_iconst (v := 1) hx hb dX7_readForm_87 (by decide) ?_
              refine lv_iadd hx hb dX7_readForm_88 ?_
              refine p_X7_2 (x := ((V 192 2) + 1)) C hV hS q_287 dX7_readForm_89 (fun H locs hV hS => ?_)
              refine lv_goto (tgt := 97) hx hb dX7_readForm_92 (by decide) ?_
              exact K_97 (fun V t1 x2 x3 x4 => f_X7_readForm_b5 n V t1 x2 x3 x4) (fun V t1 x2 x3 x4 hr => ih V t1 x2 x3 x4 hr) _ t1 x2 x3 x4 hr _ _ ls hV hS (lv_sub hl [1, 2, 3, 4, 5] rfl)
          · have hr := it b_10 hr
            exact K_36 (fun V t1 x2 x3 x4 => f_X7_readForm_b5 n V t1 x2 x3 x4) (fun V t1 x2 x3 x4 hr => ih V t1 x2 x3 x4 hr) _ t1 x2 x3 x4 q8 hr _ _ ls hV hS (lv_sub hl [1, 2, 3, 4, 5, 0] rfl)
  unfold f_X7_readForm at hr
  refine lv_iconst (v := 0) hx hb dX7_readForm_0 (by decide) ?_
  refine lv_istore_n (lv' := [(3, .int 0), (0, .ref (b0 + 192)), (1, .ref (G.2.2.1 t1)), (2, .int x2)]) hx hb dX7_readForm_1 rfl hl (by decide) rfl (fun ls hl => ?_)
  refine lv_iconst (v := 0) hx hb dX7_readForm_2 (by decide) ?_
  refine lv_istore (lv' := [(4, .int 0), (3, .int 0), (0, .ref (b0 + 192)), (1, .ref (G.2.2.1 t1)), (2, .int x2)]) hx hb dX7_readForm_3 hl (by decide) rfl (fun ls hl => ?_)
  exact K_5 500 _ t1 x2 0 0 hr _ _ ls hV hS (lv_sub hl [2, 3, 4, 1, 0] rfl)
set_option maxHeartbeats 4000000 in
set_option maxRecDepth 100000 in
theorem c_X7_readOrder (l : Launch) (G : LG) (b0 : Nat) (V : St) (x1 : Int32) (res : Int32 × St) (hr : f_X7_readOrder V x1 = some res) : Met l yX7_readOrder (wy yX7_readOrder cX7_readOrder 5 (some .boolean)) (rm 6) (va_Pc [.ref (b0 + 192), .int x1] (Iv G b0 V)) (QI G b0 res.1 res.2) 0 0 (Ab b0) := by
  refine mk_m (by decide +kernel) (Nat.le_of_ble_eq_true rfl) ?_
  intro p e s m below meth c C hV hS ls hl
  obtain ⟨args, hargs⟩ : ∃ z, z = ([.ref (b0 + 192), .int x1] : List Value).toArray := ⟨_, rfl⟩
  rw [← hargs] at C ⊢
  obtain ⟨hx, hb, hrt, hml, hown, hts, hlocks, hK, hSv⟩ := id C
  have hl : lv_has ls 5 [(0, .ref (b0 + 192)), (1, .int x1)] := hl
  have K_13 : ∀ (n : Nat) (V : St) (x1 : Int32) (x2 : Int32) (x3 : Int32) (x4 : Int32), f_X7_readOrder_b13 n V x1 x2 x3 x4 = some res → ∀ (H : Heap) (locs : List Loc) (ls : Array Slot), Hd G b0 V H → va_S (Ab b0) s.heap H locs → lv_has ls 5 [(0, .ref (b0 + 192)), (1, .int x1), (2, .int x2), (3, .int x3), (4, .int x4)] → W p l e (rm 6) s m args below meth c H locs 0 0 (MQ below (QI G b0 res.1 res.2) args s 0 0 (Ab b0)) (F0 m 13 ls []) := by
    intro  n
    induction n with
    | zero =>
      intro V x1 x2 x3 x4 hr
      rw [f_X7_readOrder_b13] at hr
      cases hr
    | succ n ih =>
      intro V x1 x2 x3 x4 hr H locs ls hV hS hl
      rw [f_X7_readOrder_b13] at hr
      refine lv_iload hx hb dX7_readOrder_13 (lv_at hl 4 rfl) ?_
      refine lv_bipush (v := 8) hx hb dX7_readOrder_15 (by decide) ?_
      refine lv_icmp_ge (tgt := 62) hx hb dX7_readOrder_17 (by decide) (fun b_1 => ?_) (fun b_1 => ?_)
      · have hr := it b_1 hr
        refine lv_aload_n hx hb dX7_readOrder_62 rfl (lv_at hl 0 rfl) ?_
        refine lv_iload_n hx hb dX7_readOrder_63 rfl (lv_at hl 3 rfl) ?_
        refine p_X7_2 (x := x3) C hV hS q_287 dX7_readOrder_64 (fun H locs hV hS => ?_)
        refine lv_iconst (v := 0) hx hb dX7_readOrder_67 (by decide) ?_
        rw [← Option.some.inj hr]
        exact fin_z C hV hS (by decide) rfl dX7_readOrder_68
      · have hr := ie b_1 hr
        refine lv_aload_n hx hb dX7_readOrder_20 rfl (lv_at hl 0 rfl) ?_
        refine lv_iload_n hx hb dX7_readOrder_21 rfl (lv_at hl 2 rfl) ?_
        refine p_X7_2 (x := x2) C hV hS q_287 dX7_readOrder_22 (fun H locs hV hS => ?_)
        refine lv_aload_n hx hb dX7_readOrder_25 rfl (lv_at hl 0 rfl) ?_
        refine lv_iload hx hb dX7_readOrder_26 (lv_at hl 4 rfl) ?_
        obtain ⟨q2, e2, hr⟩ := ob hr
        refine cal_s (run_S (As := [.int x4]) (rest := [.ref (b0 + 192)]) C hV hS (c_X7_formOf l G b0 (up V 192 2 x2) x4 q2 e2) q_1166 q_1167 q_100 q_1168 dk_X7_formOf (rm_ok (by decide) (by decide)) hl.1 rfl (Nat.le_of_ble_eq_true rfl) dX7_readOrder_28 ⟨Nat.zero_le _, Nat.zero_le _⟩) hS (fun H locs hV hS => ?_)
        refine lv_iload_n hx hb dX7_readOrder_31 rfl (lv_at hl 1 rfl) ?_
        obtain ⟨q3, e3, hr⟩ := ob hr
        refine cal_i (run_V (As := [.ref (G.2.2.1 q2), .int x1]) (rest := []) C hV hS (c_X7_readForm l G b0 (up V 192 2 x2) q2 x1 q3 e3) (rcv hK hV (kd_lt z_192 (by decide)) (cel_12 z_192) rfl) q_1177 q_1179 q_55 q_100 q_1180 dk_X7_readForm (rm_ok (by decide) (by decide)) hl.1 rfl (Nat.le_of_ble_eq_true rfl) dX7_readOrder_32 ⟨Nat.zero_le _, Nat.zero_le _⟩) hS (fun H locs hV hS => ?_)
        refine lv_if_eq (tgt := 47) hx hb dX7_readOrder_35 (by decide) (fun b_4 => ?_) (fun b_4 => ?_)
        · have hr := it b_4 hr
          refine lv_iload_n hx hb dX7_readOrder_47 rfl (lv_at hl 3 rfl) ?_
          refine lv_aload_n hx hb dX7_readOrder_48 rfl (lv_at hl 0 rfl) ?_
          refine g_X7_2 C hV q_287 dX7_readOrder_49 ?_
          refine r_max (D := 5) C q_1207 q_706 q_112 q_707 hl.1 ⟨rfl, rfl⟩ (Nat.le_of_ble_eq_true rfl) ⟨Nat.zero_le _, Nat.zero_le _⟩ dX7_readOrder_52 ?_
          refine W.eq (g2 := F0 m 55 ls [.int (imax x3 (q3.2 192 2))]) rfl ?_
          refine lv_istore_n (lv' := [(3, .int (imax x3 (q3.2 192 2))), (0, .ref (b0 + 192)), (1, .int x1), (2, .int x2), (4, .int x4)]) hx hb dX7_readOrder_55 rfl hl (by decide) rfl (fun ls hl => ?_)
          refine lv_iinc (v := x4 + 1) (lv' := [(4, .int (x4 + 1)), (3, .int (imax x3 (q3.2 192 2))), (0, .ref (b0 + 192)), (1, .int x1), (2, .int x2)]) hx hb dX7_readOrder_56 hl (k := 4) rfl rfl (by decide) rfl (fun ls hl => ?_)
          refine lv_goto (tgt := 13) hx hb dX7_readOrder_59 (by decide) ?_
          exact ih _ x1 x2 (imax x3 (q3.2 192 2)) (x4 + 1) hr _ _ ls hV hS (lv_sub hl [2, 3, 4, 1, 0] rfl)
        · have hr := ie b_4 hr
          refine lv_aload_n hx hb dX7_readOrder_38 rfl (lv_at hl 0 rfl) ?_
          refine lv_iload_n hx hb dX7_readOrder_39 rfl (lv_at hl 1 rfl) ?_
          refine lv_iload hx hb dX7_readOrder_40 (lv_at hl 4 rfl) ?_
          obtain ⟨q5, e5, hr⟩ := ob hr
          refine cal_v (run_V (As := [.int x1, .int x4]) (rest := []) C hV hS (c_X7_putWord l G b0 q3.2 x1 x4 q5 e5) (rcv hK hV (kd_lt z_192 (by decide)) (cel_12 z_192) rfl) q_1203 q_1205 q_61 q_100 q_1206 dk_X7_putWord (rm_ok (by decide) (by decide)) hl.1 rfl (Nat.le_of_ble_eq_true rfl) dX7_readOrder_42 ⟨Nat.zero_le _, Nat.zero_le _⟩) hS (fun H locs hV hS => ?_)
          refine lv_iconst (v := 1) hx hb dX7_readOrder_45 (by decide) ?_
          rw [← Option.some.inj hr]
          exact fin_z C hV hS (by decide) rfl dX7_readOrder_46
  unfold f_X7_readOrder at hr
  refine lv_aload_n hx hb dX7_readOrder_0 rfl (lv_at hl 0 rfl) ?_
  refine g_X7_2 C hV q_287 dX7_readOrder_1 ?_
  refine lv_istore_n (lv' := [(2, .int (V 192 2)), (0, .ref (b0 + 192)), (1, .int x1)]) hx hb dX7_readOrder_4 rfl hl (by decide) rfl (fun ls hl => ?_)
  refine lv_aload_n hx hb dX7_readOrder_5 rfl (lv_at hl 1 rfl) ?_
  refine g_X7_2 C hV q_287 dX7_readOrder_6 ?_
  refine lv_istore_n (lv' := [(3, .int (V 192 2)), (2, .int (V 192 2)), (0, .ref (b0 + 192)), (1, .int x1)]) hx hb dX7_readOrder_9 rfl hl (by decide) rfl (fun ls hl => ?_)
  refine lv_iconst (v := 0) hx hb dX7_readOrder_10 (by decide) ?_
  refine lv_istore (lv' := [(4, .int 0), (3, .int (V 192 2)), (2, .int (V 192 2)), (0, .ref (b0 + 192)), (1, .int x1)]) hx hb dX7_readOrder_11 hl (by decide) rfl (fun ls hl => ?_)
  exact K_13 500 _ x1 (V 192 2) (V 192 2) 0 hr _ _ ls hV hS (lv_sub hl [3, 4, 2, 1, 0] rfl)
set_option maxHeartbeats 4000000 in
set_option maxRecDepth 100000 in
theorem c_X7_findFault (l : Launch) (G : LG) (b0 : Nat) (V : St) (res : Int32 × St) (hr : f_X7_findFault V = some res) : Met l yX7_findFault (wy yX7_findFault cX7_findFault 2 (some .int)) (rm 7) (va_Pc [.ref (b0 + 192)] (Iv G b0 V)) (QI G b0 res.1 res.2) 0 0 (Ab b0) := by
  refine mk_m (by decide +kernel) (Nat.le_of_ble_eq_true rfl) ?_
  intro p e s m below meth c C hV hS ls hl
  obtain ⟨args, hargs⟩ : ∃ z, z = ([.ref (b0 + 192)] : List Value).toArray := ⟨_, rfl⟩
  rw [← hargs] at C ⊢
  obtain ⟨hx, hb, hrt, hml, hown, hts, hlocks, hK, hSv⟩ := id C
  have hl : lv_has ls 2 [(0, .ref (b0 + 192))] := hl
  have K_12 : ∀ (n : Nat) (V : St) (x1 : Int32), f_X7_findFault_b12 n V x1 = some res → ∀ (H : Heap) (locs : List Loc) (ls : Array Slot), Hd G b0 V H → va_S (Ab b0) s.heap H locs → lv_has ls 2 [(0, .ref (b0 + 192)), (1, .int x1)] → W p l e (rm 7) s m args below meth c H locs 0 0 (MQ below (QI G b0 res.1 res.2) args s 0 0 (Ab b0)) (F0 m 12 ls []) := by
    intro  n
    induction n with
    | zero =>
      intro V x1 hr
      rw [f_X7_findFault_b12] at hr
      cases hr
    | succ n ih =>
      intro V x1 hr H locs ls hV hS hl
      rw [f_X7_findFault_b12] at hr
      refine lv_iload_n hx hb dX7_findFault_12 rfl (lv_at hl 1 rfl) ?_
      refine lv_bipush (v := 9) hx hb dX7_findFault_13 (by decide) ?_
      refine lv_icmp_ge (tgt := 84) hx hb dX7_findFault_15 (by decide) (fun b_1 => ?_) (fun b_1 => ?_)
      · have hr := it b_1 hr
        refine lv_aload_n hx hb dX7_findFault_84 rfl (lv_at hl 0 rfl) ?_
        refine g_X7_2 C hV q_287 dX7_findFault_85 ?_
        rw [← Option.some.inj hr]
        exact fin_i C hV hS rfl dX7_findFault_88
      · have hr := ie b_1 hr
        refine lv_aload_n hx hb dX7_findFault_18 rfl (lv_at hl 0 rfl) ?_
        refine lv_iload_n hx hb dX7_findFault_19 rfl (lv_at hl 1 rfl) ?_
        obtain ⟨q2, e2, hr⟩ := ob hr
        refine cal_i (run_V (As := [.int x1]) (rest := []) C hV hS (c_X7_readOrder l G b0 V x1 q2 e2) (rcv hK hV (kd_lt z_192 (by decide)) (cel_12 z_192) rfl) q_1162 q_1164 q_54 q_100 q_1165 dk_X7_readOrder (rm_ok (by decide) (by decide)) hl.1 rfl (Nat.le_of_ble_eq_true rfl) dX7_findFault_20 ⟨Nat.zero_le _, Nat.zero_le _⟩) hS (fun H locs hV hS => ?_)
        refine lv_if_ne (tgt := 31) hx hb dX7_findFault_23 (by decide) (fun b_3 => ?_) (fun b_3 => ?_)
        · have hr := ie b_3 hr
          refine lv_aload_n hx hb dX7_findFault_31 rfl (lv_at hl 0 rfl) ?_
          refine lv_dup hx hb dX7_findFault_32 rfl ?_
          refine g_X7_5 C hV q_290 dX7_findFault_33 ?_
          refine lv_iconst (v := 1) hx hb dX7_findFault_36 (by decide) ?_
          refine lv_iadd hx hb dX7_findFault_37 ?_
          refine p_X7_5 (x := ((q2.2 192 5) + 1)) C hV hS q_290 dX7_findFault_38 (fun H locs hV hS => ?_)
          refine lv_aload_n hx hb dX7_findFault_41 rfl (lv_at hl 0 rfl) ?_
          refine g_X7_2 C hV q_287 dX7_findFault_42 ?_
          refine lv_aload_n hx hb dX7_findFault_45 rfl (lv_at hl 0 rfl) ?_
          refine g_X7_1 C hV q_285 dX7_findFault_46 ?_
          refine lv_icmp_lt (tgt := 54) hx hb dX7_findFault_49 (by decide) (fun b_4 => ?_) (fun b_4 => ?_)
          · have hr := it b_4 hr
            refine lv_aload_n hx hb dX7_findFault_54 rfl (lv_at hl 0 rfl) ?_
            refine lv_bipush (v := 59) hx hb dX7_findFault_55 (by decide) ?_
            obtain ⟨q5, e5, hr⟩ := ob hr
            refine cal_i (run_V (As := [.int 59]) (rest := []) C hV hS (c_X7_isNext l G b0 (up q2.2 192 5 ((q2.2 192 5) + 1)) 59 q5 e5) (rcv hK hV (kd_lt z_192 (by decide)) (cel_12 z_192) rfl) q_1199 q_1201 q_60 q_100 q_1202 dk_X7_isNext (rm_ok (by decide) (by decide)) hl.1 rfl (Nat.le_of_ble_eq_true rfl) dX7_findFault_57 ⟨Nat.zero_le _, Nat.zero_le _⟩) hS (fun H locs hV hS => ?_)
            refine lv_if_ne (tgt := 68) hx hb dX7_findFault_60 (by decide) (fun b_6 => ?_) (fun b_6 => ?_)
            · have hr := ie b_6 hr
              refine lv_aload_n hx hb dX7_findFault_68 rfl (lv_at hl 0 rfl) ?_
              refine lv_dup hx hb dX7_findFault_69 rfl ?_
              refine g_X7_2 C hV q_287 dX7_findFault_70 ?_
              refine lv_iconst (v := 1) hx hb dX7_findFault_73 (by decide) ?_
              refine lv_iadd hx hb dX7_findFault_74 ?_
              refine p_X7_2 (x := (((up q2.2 192 5 ((q2.2 192 5) + 1)) 192 2) + 1)) C hV hS q_287 dX7_findFault_75 (fun H locs hV hS => ?_)
              refine lv_iinc (v := x1 + 1) (lv' := [(1, .int (x1 + 1)), (0, .ref (b0 + 192))]) hx hb dX7_findFault_78 hl (k := 1) rfl rfl (by decide) rfl (fun ls hl => ?_)
              refine lv_goto (tgt := 12) hx hb dX7_findFault_81 (by decide) ?_
              exact ih _ (x1 + 1) hr _ _ ls hV hS (lv_sub hl [1, 0] rfl)
            · have hr := it b_6 hr
              refine lv_aload_n hx hb dX7_findFault_63 rfl (lv_at hl 0 rfl) ?_
              refine g_X7_2 C hV q_287 dX7_findFault_64 ?_
              rw [← Option.some.inj hr]
              exact fin_i C hV hS rfl dX7_findFault_67
          · have hr := ie b_4 hr
            refine lv_iconst (v := (-1)) hx hb dX7_findFault_52 (by decide) ?_
            rw [← Option.some.inj hr]
            exact fin_i C hV hS rfl dX7_findFault_53
        · have hr := it b_3 hr
          refine lv_aload_n hx hb dX7_findFault_26 rfl (lv_at hl 0 rfl) ?_
          refine g_X7_2 C hV q_287 dX7_findFault_27 ?_
          rw [← Option.some.inj hr]
          exact fin_i C hV hS rfl dX7_findFault_30
  unfold f_X7_findFault at hr
  refine lv_aload_n hx hb dX7_findFault_0 rfl (lv_at hl 0 rfl) ?_
  refine lv_iconst (v := 0) hx hb dX7_findFault_1 (by decide) ?_
  refine p_X7_2 (x := 0) C hV hS q_287 dX7_findFault_2 (fun H locs hV hS => ?_)
  refine lv_aload_n hx hb dX7_findFault_5 rfl (lv_at hl 0 rfl) ?_
  refine lv_iconst (v := 0) hx hb dX7_findFault_6 (by decide) ?_
  refine p_X7_5 (x := 0) C hV hS q_290 dX7_findFault_7 (fun H locs hV hS => ?_)
  refine lv_iconst (v := 0) hx hb dX7_findFault_10 (by decide) ?_
  refine lv_istore_n (lv' := [(1, .int 0), (0, .ref (b0 + 192))]) hx hb dX7_findFault_11 rfl hl (by decide) rfl (fun ls hl => ?_)
  exact K_12 500 _ 0 hr _ _ ls hV hS (lv_sub hl [1, 0] rfl)
set_option maxHeartbeats 4000000 in
set_option maxRecDepth 100000 in
theorem c_X9_isNet (l : Launch) (G : LG) (b0 : Nat) (V : St) (x0 : Int32) (res : Int32) (hr : f_X9_isNet x0 = some res) : Met l yX9_isNet (wy yX9_isNet cX9_isNet 1 (some .boolean)) (rm 0) (va_Pc [.int x0] (Iv G b0 V)) (QI G b0 res V) 0 0 (Ab b0) := by
  refine mk_m (by decide +kernel) (Nat.le_of_ble_eq_true rfl) ?_
  intro p e s m below meth c C hV hS ls hl
  obtain ⟨args, hargs⟩ : ∃ z, z = ([.int x0] : List Value).toArray := ⟨_, rfl⟩
  rw [← hargs] at C ⊢
  obtain ⟨hx, hb, hrt, hml, hown, hts, hlocks, hK, hSv⟩ := id C
  have hl : lv_has ls 1 [(0, .int x0)] := hl
  unfold f_X9_isNet at hr
  refine lv_iload_n hx hb dX9_isNet_0 rfl (lv_at hl 0 rfl) ?_
  refine lv_if_lt (tgt := 13) hx hb dX9_isNet_1 (by decide) (fun b_1 => ?_) (fun b_1 => ?_)
  · have hr := it b_1 hr
    refine lv_iconst (v := 0) hx hb dX9_isNet_13 (by decide) ?_
    exact fin_z C hV hS (by decide) (Option.some.inj hr) dX9_isNet_14
  · have hr := ie b_1 hr
    refine lv_iload_n hx hb dX9_isNet_4 rfl (lv_at hl 0 rfl) ?_
    refine lv_iconst (v := 3) hx hb dX9_isNet_5 (by decide) ?_
    refine lv_icmp_ge (tgt := 13) hx hb dX9_isNet_6 (by decide) (fun b_2 => ?_) (fun b_2 => ?_)
    · have hr := it b_2 hr
      refine lv_iconst (v := 0) hx hb dX9_isNet_13 (by decide) ?_
      exact fin_z C hV hS (by decide) (Option.some.inj hr) dX9_isNet_14
    · have hr := ie b_2 hr
      refine lv_iconst (v := 1) hx hb dX9_isNet_9 (by decide) ?_
      refine lv_goto (tgt := 14) hx hb dX9_isNet_10 (by decide) ?_
      exact fin_z C hV hS (by decide) (Option.some.inj hr) dX9_isNet_14
set_option maxHeartbeats 4000000 in
set_option maxRecDepth 100000 in
theorem c_X8_netNumbered (l : Launch) (G : LG) (b0 : Nat) (V : St) (k0 : Nat) (hk0 : kd k0 = 1) (x1 : Int32) (res : Nat) (hr : f_X8_netNumbered V k0 x1 = some res) : Met l yX8_netNumbered (wy yX8_netNumbered cX8_netNumbered 2 (some (.object "NetScript$Net"))) (rm 1) (va_Pc [.ref (b0 + k0), .int x1] (Iv G b0 V)) (QR G b0 res V) 0 0 (Ab b0) := by
  refine mk_m (by decide +kernel) (Nat.le_of_ble_eq_true rfl) ?_
  intro p e s m below meth c C hV hS ls hl
  obtain ⟨args, hargs⟩ : ∃ z, z = ([.ref (b0 + k0), .int x1] : List Value).toArray := ⟨_, rfl⟩
  rw [← hargs] at C ⊢
  obtain ⟨hx, hb, hrt, hml, hown, hts, hlocks, hK, hSv⟩ := id C
  have hl : lv_has ls 2 [(0, .ref (b0 + k0)), (1, .int x1)] := hl
  unfold f_X8_netNumbered at hr
  refine lv_aload_n hx hb dX8_netNumbered_0 rfl (lv_at hl 0 rfl) ?_
  refine g_X8_0 (k := k0) C hV hk0 q_211 dX8_netNumbered_1 ?_
  refine lv_iload_n hx hb dX8_netNumbered_4 rfl (lv_at hl 1 rfl) ?_
  obtain ⟨q1, e1, hr⟩ := ob hr
  refine cal_i (run_SN (As := [.int x1]) (rest := [.ref (b0 + (k0 + 1))]) C hV hS (c_X9_isNet l G b0 V x1 q1 e1) q_487 q_468 q_93 q_469 dk_X9_isNet (rm_ok (by decide) (by decide)) hl.1 rfl (Nat.le_of_ble_eq_true rfl) dX8_netNumbered_5 ⟨Nat.zero_le _, Nat.zero_le _⟩) hS (fun H locs hV hS => ?_)
  refine lv_if_eq (tgt := 15) hx hb dX8_netNumbered_8 (by decide) (fun b_2 => ?_) (fun b_2 => ?_)
  · have hr := it b_2 hr
    refine lv_iconst (v := 0) hx hb dX8_netNumbered_15 (by decide) ?_
    refine a_2 (k := (k0 + 1)) (i := 0) (j := 0) C hV (kd_s1 hk0) (by decide) dX8_netNumbered_16 ?_
    exact fin_r C hV hS (Option.some.inj hr) dX8_netNumbered_17
  · have hr := ie b_2 hr
    refine lv_iload_n hx hb dX8_netNumbered_11 rfl (lv_at hl 1 rfl) ?_
    refine lv_goto (tgt := 16) hx hb dX8_netNumbered_12 (by decide) ?_
    obtain ⟨j3, e3, hr⟩ := ob hr
    refine a_2 (k := (k0 + 1)) (i := x1) (j := j3) C hV (kd_s1 hk0) e3 dX8_netNumbered_16 ?_
    exact fin_r C hV hS (Option.some.inj hr) dX8_netNumbered_17
set_option maxHeartbeats 4000000 in
set_option maxRecDepth 100000 in
theorem c_X8_editorNumbered (l : Launch) (G : LG) (b0 : Nat) (V : St) (k0 : Nat) (hk0 : kd k0 = 1) (x1 : Int32) (res : Nat) (hr : f_X8_editorNumbered V k0 x1 = some res) : Met l yX8_editorNumbered (wy yX8_editorNumbered cX8_editorNumbered 2 (some (.object "NetScript$Editor"))) (rm 0) (va_Pc [.ref (b0 + k0), .int x1] (Iv G b0 V)) (QR G b0 res V) 0 0 (Ab b0) := by
  refine mk_m (by decide +kernel) (Nat.le_of_ble_eq_true rfl) ?_
  intro p e s m below meth c C hV hS ls hl
  obtain ⟨args, hargs⟩ : ∃ z, z = ([.ref (b0 + k0), .int x1] : List Value).toArray := ⟨_, rfl⟩
  rw [← hargs] at C ⊢
  obtain ⟨hx, hb, hrt, hml, hown, hts, hlocks, hK, hSv⟩ := id C
  have hl : lv_has ls 2 [(0, .ref (b0 + k0)), (1, .int x1)] := hl
  unfold f_X8_editorNumbered at hr
  refine lv_aload_n hx hb dX8_editorNumbered_0 rfl (lv_at hl 0 rfl) ?_
  refine g_X8_1 (k := k0) C hV hk0 q_212 dX8_editorNumbered_1 ?_
  refine lv_iload_n hx hb dX8_editorNumbered_4 rfl (lv_at hl 1 rfl) ?_
  refine lv_if_lt (tgt := 17) hx hb dX8_editorNumbered_5 (by decide) (fun b_1 => ?_) (fun b_1 => ?_)
  · have hr := it b_1 hr
    refine lv_iconst (v := 0) hx hb dX8_editorNumbered_17 (by decide) ?_
    refine a_3 (k := (k0 + 2)) (i := 0) (j := 0) C hV (kd_s2 hk0) (by decide) dX8_editorNumbered_18 ?_
    exact fin_r C hV hS (Option.some.inj hr) dX8_editorNumbered_19
  · have hr := ie b_1 hr
    refine lv_iload_n hx hb dX8_editorNumbered_8 rfl (lv_at hl 1 rfl) ?_
    refine lv_iconst (v := 4) hx hb dX8_editorNumbered_9 (by decide) ?_
    refine lv_icmp_ge (tgt := 17) hx hb dX8_editorNumbered_10 (by decide) (fun b_2 => ?_) (fun b_2 => ?_)
    · have hr := it b_2 hr
      refine lv_iconst (v := 0) hx hb dX8_editorNumbered_17 (by decide) ?_
      refine a_3 (k := (k0 + 2)) (i := 0) (j := 0) C hV (kd_s2 hk0) (by decide) dX8_editorNumbered_18 ?_
      exact fin_r C hV hS (Option.some.inj hr) dX8_editorNumbered_19
    · have hr := ie b_2 hr
      refine lv_iload_n hx hb dX8_editorNumbered_13 rfl (lv_at hl 1 rfl) ?_
      refine lv_goto (tgt := 18) hx hb dX8_editorNumbered_14 (by decide) ?_
      obtain ⟨j3, e3, hr⟩ := ob hr
      refine a_3 (k := (k0 + 2)) (i := x1) (j := j3) C hV (kd_s2 hk0) e3 dX8_editorNumbered_18 ?_
      exact fin_r C hV hS (Option.some.inj hr) dX8_editorNumbered_19
set_option maxHeartbeats 4000000 in
set_option maxRecDepth 100000 in
theorem c_X8_noteNumbered (l : Launch) (G : LG) (b0 : Nat) (V : St) (k0 : Nat) (hk0 : kd k0 = 1) (x1 : Int32) (res : Nat) (hr : f_X8_noteNumbered V k0 x1 = some res) : Met l yX8_noteNumbered (wy yX8_noteNumbered cX8_noteNumbered 2 (some (.object "NetScript$Note"))) (rm 0) (va_Pc [.ref (b0 + k0), .int x1] (Iv G b0 V)) (QR G b0 res V) 0 0 (Ab b0) := by
  refine mk_m (by decide +kernel) (Nat.le_of_ble_eq_true rfl) ?_
  intro p e s m below meth c C hV hS ls hl
  obtain ⟨args, hargs⟩ : ∃ z, z = ([.ref (b0 + k0), .int x1] : List Value).toArray := ⟨_, rfl⟩
  rw [← hargs] at C ⊢
  obtain ⟨hx, hb, hrt, hml, hown, hts, hlocks, hK, hSv⟩ := id C
  have hl : lv_has ls 2 [(0, .ref (b0 + k0)), (1, .int x1)] := hl
  unfold f_X8_noteNumbered at hr
  refine lv_aload_n hx hb dX8_noteNumbered_0 rfl (lv_at hl 0 rfl) ?_
  refine g_X8_2 (k := k0) C hV hk0 q_213 dX8_noteNumbered_1 ?_
  refine lv_iload_n hx hb dX8_noteNumbered_4 rfl (lv_at hl 1 rfl) ?_
  refine lv_if_lt (tgt := 18) hx hb dX8_noteNumbered_5 (by decide) (fun b_1 => ?_) (fun b_1 => ?_)
  · have hr := it b_1 hr
    refine lv_iconst (v := 0) hx hb dX8_noteNumbered_18 (by decide) ?_
    refine a_4 (k := (k0 + 3)) (i := 0) (j := 0) C hV (kd_s3 hk0) (by decide) dX8_noteNumbered_19 ?_
    exact fin_r C hV hS (Option.some.inj hr) dX8_noteNumbered_20
  · have hr := ie b_1 hr
    refine lv_iload_n hx hb dX8_noteNumbered_8 rfl (lv_at hl 1 rfl) ?_
    refine lv_bipush (v := 6) hx hb dX8_noteNumbered_9 (by decide) ?_
    refine lv_icmp_ge (tgt := 18) hx hb dX8_noteNumbered_11 (by decide) (fun b_2 => ?_) (fun b_2 => ?_)
    · have hr := it b_2 hr
      refine lv_iconst (v := 0) hx hb dX8_noteNumbered_18 (by decide) ?_
      refine a_4 (k := (k0 + 3)) (i := 0) (j := 0) C hV (kd_s3 hk0) (by decide) dX8_noteNumbered_19 ?_
      exact fin_r C hV hS (Option.some.inj hr) dX8_noteNumbered_20
    · have hr := ie b_2 hr
      refine lv_iload_n hx hb dX8_noteNumbered_14 rfl (lv_at hl 1 rfl) ?_
      refine lv_goto (tgt := 19) hx hb dX8_noteNumbered_15 (by decide) ?_
      obtain ⟨j3, e3, hr⟩ := ob hr
      refine a_4 (k := (k0 + 3)) (i := x1) (j := j3) C hV (kd_s3 hk0) e3 dX8_noteNumbered_19 ?_
      exact fin_r C hV hS (Option.some.inj hr) dX8_noteNumbered_20
set_option maxHeartbeats 4000000 in
set_option maxRecDepth 100000 in
theorem c_X8_hasEditor (l : Launch) (G : LG) (b0 : Nat) (V : St) (k0 : Nat) (hk0 : kd k0 = 1) (x1 : Int32) (res : Int32) (hr : f_X8_hasEditor V k0 x1 = some res) : Met l yX8_hasEditor (wy yX8_hasEditor cX8_hasEditor 2 (some .boolean)) (rm 0) (va_Pc [.ref (b0 + k0), .int x1] (Iv G b0 V)) (QI G b0 res V) 0 0 (Ab b0) := by
  refine mk_m (by decide +kernel) (Nat.le_of_ble_eq_true rfl) ?_
  intro p e s m below meth c C hV hS ls hl
  obtain ⟨args, hargs⟩ : ∃ z, z = ([.ref (b0 + k0), .int x1] : List Value).toArray := ⟨_, rfl⟩
  rw [← hargs] at C ⊢
  obtain ⟨hx, hb, hrt, hml, hown, hts, hlocks, hK, hSv⟩ := id C
  have hl : lv_has ls 2 [(0, .ref (b0 + k0)), (1, .int x1)] := hl
  unfold f_X8_hasEditor at hr
  refine lv_iload_n hx hb dX8_hasEditor_0 rfl (lv_at hl 1 rfl) ?_
  refine lv_if_lt (tgt := 16) hx hb dX8_hasEditor_1 (by decide) (fun b_1 => ?_) (fun b_1 => ?_)
  · have hr := it b_1 hr
    refine lv_iconst (v := 0) hx hb dX8_hasEditor_16 (by decide) ?_
    exact fin_z C hV hS (by decide) (Option.some.inj hr) dX8_hasEditor_17
  · have hr := ie b_1 hr
    refine lv_iload_n hx hb dX8_hasEditor_4 rfl (lv_at hl 1 rfl) ?_
    refine lv_aload_n hx hb dX8_hasEditor_5 rfl (lv_at hl 0 rfl) ?_
    refine g_X8_3 (k := k0) C hV hk0 q_214 dX8_hasEditor_6 ?_
    refine lv_icmp_ge (tgt := 16) hx hb dX8_hasEditor_9 (by decide) (fun b_2 => ?_) (fun b_2 => ?_)
    · have hr := it b_2 hr
      refine lv_iconst (v := 0) hx hb dX8_hasEditor_16 (by decide) ?_
      exact fin_z C hV hS (by decide) (Option.some.inj hr) dX8_hasEditor_17
    · have hr := ie b_2 hr
      refine lv_iconst (v := 1) hx hb dX8_hasEditor_12 (by decide) ?_
      refine lv_goto (tgt := 17) hx hb dX8_hasEditor_13 (by decide) ?_
      exact fin_z C hV hS (by decide) (Option.some.inj hr) dX8_hasEditor_17
set_option maxHeartbeats 4000000 in
set_option maxRecDepth 100000 in
theorem c_X8_hasNote (l : Launch) (G : LG) (b0 : Nat) (V : St) (k0 : Nat) (hk0 : kd k0 = 1) (x1 : Int32) (res : Int32) (hr : f_X8_hasNote V k0 x1 = some res) : Met l yX8_hasNote (wy yX8_hasNote cX8_hasNote 2 (some .boolean)) (rm 0) (va_Pc [.ref (b0 + k0), .int x1] (Iv G b0 V)) (QI G b0 res V) 0 0 (Ab b0) := by
  refine mk_m (by decide +kernel) (Nat.le_of_ble_eq_true rfl) ?_
  intro p e s m below meth c C hV hS ls hl
  obtain ⟨args, hargs⟩ : ∃ z, z = ([.ref (b0 + k0), .int x1] : List Value).toArray := ⟨_, rfl⟩
  rw [← hargs] at C ⊢
  obtain ⟨hx, hb, hrt, hml, hown, hts, hlocks, hK, hSv⟩ := id C
  have hl : lv_has ls 2 [(0, .ref (b0 + k0)), (1, .int x1)] := hl
  unfold f_X8_hasNote at hr
  refine lv_iload_n hx hb dX8_hasNote_0 rfl (lv_at hl 1 rfl) ?_
  refine lv_if_lt (tgt := 16) hx hb dX8_hasNote_1 (by decide) (fun b_1 => ?_) (fun b_1 => ?_)
  · have hr := it b_1 hr
    refine lv_iconst (v := 0) hx hb dX8_hasNote_16 (by decide) ?_
    exact fin_z C hV hS (by decide) (Option.some.inj hr) dX8_hasNote_17
  · have hr := ie b_1 hr
    refine lv_iload_n hx hb dX8_hasNote_4 rfl (lv_at hl 1 rfl) ?_
    refine lv_aload_n hx hb dX8_hasNote_5 rfl (lv_at hl 0 rfl) ?_
    refine g_X8_4 (k := k0) C hV hk0 q_216 dX8_hasNote_6 ?_
    refine lv_icmp_ge (tgt := 16) hx hb dX8_hasNote_9 (by decide) (fun b_2 => ?_) (fun b_2 => ?_)
    · have hr := it b_2 hr
      refine lv_iconst (v := 0) hx hb dX8_hasNote_16 (by decide) ?_
      exact fin_z C hV hS (by decide) (Option.some.inj hr) dX8_hasNote_17
    · have hr := ie b_2 hr
      refine lv_iconst (v := 1) hx hb dX8_hasNote_12 (by decide) ?_
      refine lv_goto (tgt := 17) hx hb dX8_hasNote_13 (by decide) ?_
      exact fin_z C hV hS (by decide) (Option.some.inj hr) dX8_hasNote_17
set_option maxHeartbeats 4000000 in
set_option maxRecDepth 100000 in
theorem c_X8_tearString (l : Launch) (G : LG) (b0 : Nat) (V : St) (k0 : Nat) (hk0 : kd k0 = 1) (x1 : Int32) (x2 : Int32) (x3 : Int32) (res : St) (hr : f_X8_tearString V k0 x1 x2 x3 = some res) : Met l yX8_tearString (wy yX8_tearString cX8_tearString 4 none) (rm 3) (va_Pc [.ref (b0 + k0), .int x1, .int x2, .int x3] (Iv G b0 V)) (QV G b0 res) 0 0 (Ab b0) := by
  refine mk_m (by decide +kernel) (Nat.le_of_ble_eq_true rfl) ?_
  intro p e s m below meth c C hV hS ls hl
  obtain ⟨args, hargs⟩ : ∃ z, z = ([.ref (b0 + k0), .int x1, .int x2, .int x3] : List Value).toArray := ⟨_, rfl⟩
  rw [← hargs] at C ⊢
  obtain ⟨hx, hb, hrt, hml, hown, hts, hlocks, hK, hSv⟩ := id C
  have hl : lv_has ls 4 [(0, .ref (b0 + k0)), (1, .int x1), (2, .int x2), (3, .int x3)] := hl
  unfold f_X8_tearString at hr
  refine lv_aload_n hx hb dX8_tearString_0 rfl (lv_at hl 0 rfl) ?_
  refine lv_iload_n hx hb dX8_tearString_1 rfl (lv_at hl 1 rfl) ?_
  obtain ⟨q1, e1, hr⟩ := ob hr
  refine cal_r (run_V (As := [.int x1]) (rest := []) C hV hS (c_X8_netNumbered l G b0 V k0 hk0 x1 q1 e1) (rcv hK hV (kd_lt hk0 (by decide)) (cel_1 hk0) rfl) q_534 q_485 q_1 q_94 q_486 dk_X8_netNumbered (rm_ok (by decide) (by decide)) hl.1 rfl (Nat.le_of_ble_eq_true rfl) dX8_tearString_2 ⟨Nat.zero_le _, Nat.zero_le _⟩) hS (fun H locs hV hS => ?_)
  refine lv_iload_n hx hb dX8_tearString_5 rfl (lv_at hl 2 rfl) ?_
  refine lv_iload_n hx hb dX8_tearString_6 rfl (lv_at hl 3 rfl) ?_
  refine lv_iconst (v := 1) hx hb dX8_tearString_7 (by decide) ?_
  obtain ⟨q2, e2, hr⟩ := ob hr
  refine cal_v (run_VN (As := [.int x2, .int x3, .int 1]) (rest := []) C hV hS (c_X3_putString l G b0 V q1 (kr_X8_netNumbered hk0 e1) x2 x3 1 q2 e2) (rcv hK hV (kd_lt (kr_X8_netNumbered hk0 e1) (by decide)) (cel_5 (kr_X8_netNumbered hk0 e1)) rfl) q_723 q_725 q_34 q_95 q_726 dk_X3_putString (rm_ok (by decide) (by decide)) hl.1 rfl (Nat.le_of_ble_eq_true rfl) dX8_tearString_8 ⟨Nat.zero_le _, Nat.zero_le _⟩) hS (fun H locs hV hS => ?_)
  refine lv_aload_n hx hb dX8_tearString_11 rfl (lv_at hl 0 rfl) ?_
  refine lv_dup hx hb dX8_tearString_12 rfl ?_
  refine g_X8_6 (k := k0) C hV hk0 q_220 dX8_tearString_13 ?_
  refine lv_iconst (v := 1) hx hb dX8_tearString_16 (by decide) ?_
  refine lv_iadd hx hb dX8_tearString_17 ?_
  refine p_X8_6 (k := k0) (x := ((q2 k0 6) + 1)) C hV hS hk0 q_220 dX8_tearString_18 (fun H locs hV hS => ?_)
  exact fin_v C hV hS (Option.some.inj hr) dX8_tearString_21
set_option maxHeartbeats 4000000 in
set_option maxRecDepth 100000 in
theorem c_X8_mendString (l : Launch) (G : LG) (b0 : Nat) (V : St) (k0 : Nat) (hk0 : kd k0 = 1) (x1 : Int32) (x2 : Int32) (x3 : Int32) (x4 : Int32) (res : St) (hr : f_X8_mendString V k0 x1 x2 x3 x4 = some res) : Met l yX8_mendString (wy yX8_mendString cX8_mendString 6 none) (rm 3) (va_Pc [.ref (b0 + k0), .int x1, .int x2, .int x3, .int x4] (Iv G b0 V)) (QV G b0 res) 0 0 (Ab b0) := by
  refine mk_m (by decide +kernel) (Nat.le_of_ble_eq_true rfl) ?_
  intro p e s m below meth c C hV hS ls hl
  obtain ⟨args, hargs⟩ : ∃ z, z = ([.ref (b0 + k0), .int x1, .int x2, .int x3, .int x4] : List Value).toArray := ⟨_, rfl⟩
  rw [← hargs] at C ⊢
  obtain ⟨hx, hb, hrt, hml, hown, hts, hlocks, hK, hSv⟩ := id C
  have hl : lv_has ls 6 [(0, .ref (b0 + k0)), (1, .int x1), (2, .int x2), (3, .int x3), (4, .int x4)] := hl
  unfold f_X8_mendString at hr
  refine lv_iload_n hx hb dX8_mendString_0 rfl (lv_at hl 2 rfl) ?_
  refine lv_iload_n hx hb dX8_mendString_1 rfl (lv_at hl 3 rfl) ?_
  obtain ⟨q1, e1, hr⟩ := ob hr
  refine cal_i (run_SN (As := [.int x2, .int x3]) (rest := []) C hV hS (c_X9_twineFor l G b0 V x2 x3 q1 e1) q_752 q_744 q_93 q_745 dk_X9_twineFor (rm_ok (by decide) (by decide)) hl.1 rfl (Nat.le_of_ble_eq_true rfl) dX8_mendString_2 ⟨Nat.zero_le _, Nat.zero_le _⟩) hS (fun H locs hV hS => ?_)
  refine lv_istore (lv' := [(5, .int q1), (0, .ref (b0 + k0)), (1, .int x1), (2, .int x2), (3, .int x3), (4, .int x4)]) hx hb dX8_mendString_5 hl (by decide) rfl (fun ls hl => ?_)
  refine lv_aload_n hx hb dX8_mendString_7 rfl (lv_at hl 1 rfl) ?_
  refine lv_iload_n hx hb dX8_mendString_8 rfl (lv_at hl 2 rfl) ?_
  obtain ⟨q2, e2, hr⟩ := ob hr
  refine cal_r (run_V (As := [.int x1]) (rest := []) C hV hS (c_X8_netNumbered l G b0 V k0 hk0 x1 q2 e2) (rcv hK hV (kd_lt hk0 (by decide)) (cel_1 hk0) rfl) q_534 q_485 q_1 q_94 q_486 dk_X8_netNumbered (rm_ok (by decide) (by decide)) hl.1 rfl (Nat.le_of_ble_eq_true rfl) dX8_mendString_9 ⟨Nat.zero_le _, Nat.zero_le _⟩) hS (fun H locs hV hS => ?_)
  refine lv_iload_n hx hb dX8_mendString_12 rfl (lv_at hl 3 rfl) ?_
  refine lv_iload_n hx hb dX8_mendString_13 rfl (lv_at hl 4 rfl) ?_
  refine lv_iconst (v := 0) hx hb dX8_mendString_14 (by decide) ?_
  obtain ⟨q3, e3, hr⟩ := ob hr
  refine cal_v (run_VN (As := [.int x2, .int x3, .int 0]) (rest := []) C hV hS (c_X3_putString l G b0 V q2 (kr_X8_netNumbered hk0 e2) x2 x3 0 q3 e3) (rcv hK hV (kd_lt (kr_X8_netNumbered hk0 e2) (by decide)) (cel_5 (kr_X8_netNumbered hk0 e2)) rfl) q_723 q_725 q_34 q_95 q_726 dk_X3_putString (rm_ok (by decide) (by decide)) hl.1 rfl (Nat.le_of_ble_eq_true rfl) dX8_mendString_15 ⟨Nat.zero_le _, Nat.zero_le _⟩) hS (fun H locs hV hS => ?_)
  refine lv_aload_n hx hb dX8_mendString_18 rfl (lv_at hl 1 rfl) ?_
  refine lv_iload hx hb dX8_mendString_19 (lv_at hl 5 rfl) ?_
  obtain ⟨q4, e4, hr⟩ := ob hr
  refine cal_r (run_V (As := [.int x4]) (rest := []) C hV hS (c_X8_editorNumbered l G b0 q3 k0 hk0 x4 q4 e4) (rcv hK hV (kd_lt hk0 (by decide)) (cel_1 hk0) rfl) q_555 q_557 q_12 q_94 q_558 dk_X8_editorNumbered (rm_ok (by decide) (by decide)) hl.1 rfl (Nat.le_of_ble_eq_true rfl) dX8_mendString_21 ⟨Nat.zero_le _, Nat.zero_le _⟩) hS (fun H locs hV hS => ?_)
  refine lv_dup hx hb dX8_mendString_24 rfl ?_
  refine gn_X0_0 (k := q4) C hV (kr_X8_editorNumbered hk0 e4) q_181 dX8_mendString_25 ?_
  refine lv_iload hx hb dX8_mendString_28 (lv_at hl 0 rfl) ?_
  refine lv_isub hx hb dX8_mendString_30 ?_
  refine pn_X0_0 (k := q4) (x := ((q3 q4 0) - q1)) C hV hS (kr_X8_editorNumbered hk0 e4) q_181 dX8_mendString_31 (fun H locs hV hS => ?_)
  refine lv_aload_n hx hb dX8_mendString_34 rfl (lv_at hl 1 rfl) ?_
  refine lv_iload hx hb dX8_mendString_35 (lv_at hl 5 rfl) ?_
  obtain ⟨q5, e5, hr⟩ := ob hr
  refine cal_r (run_V (As := [.int x4]) (rest := []) C hV hS (c_X8_editorNumbered l G b0 (up q3 q4 0 ((q3 q4 0) - q1)) k0 hk0 x4 q5 e5) (rcv hK hV (kd_lt hk0 (by decide)) (cel_1 hk0) rfl) q_555 q_557 q_12 q_94 q_558 dk_X8_editorNumbered (rm_ok (by decide) (by decide)) hl.1 rfl (Nat.le_of_ble_eq_true rfl) dX8_mendString_37 ⟨Nat.zero_le _, Nat.zero_le _⟩) hS (fun H locs hV hS => ?_)
  refine lv_dup hx hb dX8_mendString_40 rfl ?_
  refine gn_X0_1 (k := q5) C hV (kr_X8_editorNumbered hk0 e5) q_183 dX8_mendString_41 ?_
  refine lv_iconst (v := 1) hx hb dX8_mendString_44 (by decide) ?_
  refine lv_iadd hx hb dX8_mendString_45 ?_
  refine pn_X0_1 (k := q5) (x := (((up q3 q4 0 ((q3 q4 0) - q1)) q5 1) + 1)) C hV hS (kr_X8_editorNumbered hk0 e5) q_183 dX8_mendString_46 (fun H locs hV hS => ?_)
  refine lv_aload_n hx hb dX8_mendString_49 rfl (lv_at hl 1 rfl) ?_
  refine lv_dup hx hb dX8_mendString_50 rfl ?_
  refine g_X8_7 (k := k0) C hV hk0 q_222 dX8_mendString_51 ?_
  refine lv_iconst (v := 1) hx hb dX8_mendString_54 (by decide) ?_
  refine lv_iadd hx hb dX8_mendString_55 ?_
  refine p_X8_7 (k := k0) (x := (((up (up q3 q4 0 ((q3 q4 0) - q1)) q5 1 (((up q3 q4 0 ((q3 q4 0) - q1)) q5 1) + 1)) k0 7) + 1)) C hV hS hk0 q_222 dX8_mendString_56 (fun H locs hV hS => ?_)
  refine lv_aload_n hx hb dX8_mendString_59 rfl (lv_at hl 1 rfl) ?_
  refine lv_dup hx hb dX8_mendString_60 rfl ?_
  refine g_X8_8 (k := k0) C hV hk0 q_224 dX8_mendString_61 ?_
  refine lv_iload hx hb dX8_mendString_64 (lv_at hl 0 rfl) ?_
  refine lv_iadd hx hb dX8_mendString_66 ?_
  refine p_X8_8 (k := k0) (x := (((up (up (up q3 q4 0 ((q3 q4 0) - q1)) q5 1 (((up q3 q4 0 ((q3 q4 0) - q1)) q5 1) + 1)) k0 7 (((up (up q3 q4 0 ((q3 q4 0) - q1)) q5 1 (((up q3 q4 0 ((q3 q4 0) - q1)) q5 1) + 1)) k0 7) + 1)) k0 8) + q1)) C hV hS hk0 q_224 dX8_mendString_67 (fun H locs hV hS => ?_)
  exact fin_v C hV hS (Option.some.inj hr) dX8_mendString_70
set_option maxHeartbeats 4000000 in
set_option maxRecDepth 100000 in
theorem c_X8_addEditor (l : Launch) (G : LG) (b0 : Nat) (V : St) (k0 : Nat) (hk0 : kd k0 = 1) (x1 : Int32) (res : St) (hr : f_X8_addEditor V k0 x1 = some res) : Met l yX8_addEditor (wy yX8_addEditor cX8_addEditor 2 none) (rm 1) (va_Pc [.ref (b0 + k0), .int x1] (Iv G b0 V)) (QV G b0 res) 0 0 (Ab b0) := by
  refine mk_m (by decide +kernel) (Nat.le_of_ble_eq_true rfl) ?_
  intro p e s m below meth c C hV hS ls hl
  obtain ⟨args, hargs⟩ : ∃ z, z = ([.ref (b0 + k0), .int x1] : List Value).toArray := ⟨_, rfl⟩
  rw [← hargs] at C ⊢
  obtain ⟨hx, hb, hrt, hml, hown, hts, hlocks, hK, hSv⟩ := id C
  have hl : lv_has ls 2 [(0, .ref (b0 + k0)), (1, .int x1)] := hl
  unfold f_X8_addEditor at hr
  refine lv_aload_n hx hb dX8_addEditor_0 rfl (lv_at hl 0 rfl) ?_
  refine lv_aload_n hx hb dX8_addEditor_1 rfl (lv_at hl 0 rfl) ?_
  refine g_X8_3 (k := k0) C hV hk0 q_214 dX8_addEditor_2 ?_
  obtain ⟨q1, e1, hr⟩ := ob hr
  refine cal_r (run_V (As := [.int (V k0 3)]) (rest := []) C hV hS (c_X8_editorNumbered l G b0 V k0 hk0 (V k0 3) q1 e1) (rcv hK hV (kd_lt hk0 (by decide)) (cel_1 hk0) rfl) q_555 q_557 q_12 q_94 q_558 dk_X8_editorNumbered (rm_ok (by decide) (by decide)) hl.1 rfl (Nat.le_of_ble_eq_true rfl) dX8_addEditor_5 ⟨Nat.zero_le _, Nat.zero_le _⟩) hS (fun H locs hV hS => ?_)
  refine lv_iload_n hx hb dX8_addEditor_8 rfl (lv_at hl 1 rfl) ?_
  refine pn_X0_0 (k := q1) (x := x1) C hV hS (kr_X8_editorNumbered hk0 e1) q_181 dX8_addEditor_9 (fun H locs hV hS => ?_)
  refine lv_aload_n hx hb dX8_addEditor_12 rfl (lv_at hl 0 rfl) ?_
  refine lv_aload_n hx hb dX8_addEditor_13 rfl (lv_at hl 0 rfl) ?_
  refine g_X8_3 (k := k0) C hV hk0 q_214 dX8_addEditor_14 ?_
  obtain ⟨q2, e2, hr⟩ := ob hr
  refine cal_r (run_V (As := [.int ((up V q1 0 x1) k0 3)]) (rest := []) C hV hS (c_X8_editorNumbered l G b0 (up V q1 0 x1) k0 hk0 ((up V q1 0 x1) k0 3) q2 e2) (rcv hK hV (kd_lt hk0 (by decide)) (cel_1 hk0) rfl) q_555 q_557 q_12 q_94 q_558 dk_X8_editorNumbered (rm_ok (by decide) (by decide)) hl.1 rfl (Nat.le_of_ble_eq_true rfl) dX8_addEditor_17 ⟨Nat.zero_le _, Nat.zero_le _⟩) hS (fun H locs hV hS => ?_)
  refine lv_iconst (v := 0) hx hb dX8_addEditor_20 (by decide) ?_
  refine pn_X0_1 (k := q2) (x := 0) C hV hS (kr_X8_editorNumbered hk0 e2) q_183 dX8_addEditor_21 (fun H locs hV hS => ?_)
  refine lv_aload_n hx hb dX8_addEditor_24 rfl (lv_at hl 0 rfl) ?_
  refine lv_dup hx hb dX8_addEditor_25 rfl ?_
  refine g_X8_3 (k := k0) C hV hk0 q_214 dX8_addEditor_26 ?_
  refine lv_iconst (v := 1) hx hb dX8_addEditor_29 (by decide) ?_
  refine lv_iadd hx hb dX8_addEditor_30 ?_
  refine p_X8_3 (k := k0) (x := (((up (up V q1 0 x1) q2 1 0) k0 3) + 1)) C hV hS hk0 q_214 dX8_addEditor_31 (fun H locs hV hS => ?_)
  exact fin_v C hV hS (Option.some.inj hr) dX8_addEditor_34
