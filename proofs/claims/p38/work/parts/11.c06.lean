set_option maxHeartbeats 4000000 in
set_option maxRecDepth 100000 in
theorem c_X8_areChaptersToldAlike (l : Launch) (G : LG) (b0 : Nat) (V : St) (k0 : Nat) (hk0 : kd k0 = 1) (res : Int32 × St) (hr : f_X8_areChaptersToldAlike V k0 = some res) : Met l yX8_areChaptersToldAlike (wy yX8_areChaptersToldAlike cX8_areChaptersToldAlike 4 (some .boolean)) (rm 4) (va_Pc [.ref (b0 + k0), .ref (b0 + 190)] (Iv G b0 V)) (QI G b0 res.1 res.2) 0 0 (Ab b0) := by
  refine mk_m (by decide +kernel) (Nat.le_of_ble_eq_true rfl) ?_
  intro p e s m below meth c C hV hS ls hl
  obtain ⟨args, hargs⟩ : ∃ z, z = ([.ref (b0 + k0), .ref (b0 + 190)] : List Value).toArray := ⟨_, rfl⟩
  rw [← hargs] at C ⊢
  obtain ⟨hx, hb, hrt, hml, hown, hts, hlocks, hK, hSv⟩ := id C
  have hl : lv_has ls 4 [(0, .ref (b0 + k0)), (1, .ref (b0 + 190))] := hl
  have K_4 : ∀ (n : Nat) (V : St) (k0 : Nat) (hk0 : kd k0 = 1) (x2 : Int32) (x3 : Int32), f_X8_areChaptersToldAlike_b4 n V k0 x2 x3 = some res → ∀ (H : Heap) (locs : List Loc) (ls : Array Slot), Hd G b0 V H → va_S (Ab b0) s.heap H locs → lv_has ls 4 [(0, .ref (b0 + k0)), (1, .ref (b0 + 190)), (2, .int x2), (3, .int x3)] → W p l e (rm 4) s m args below meth c H locs 0 0 (MQ below (QI G b0 res.1 res.2) args s 0 0 (Ab b0)) (F0 m 4 ls []) := by
    intro  n
    induction n with
    | zero =>
      intro V k0 hk0 x2 x3 hr
      rw [f_X8_areChaptersToldAlike_b4] at hr
      cases hr
    | succ n ih =>
      intro V k0 hk0 x2 x3 hr H locs ls hV hS hl
      rw [f_X8_areChaptersToldAlike_b4] at hr
      refine lv_iload_n hx hb dX8_areChaptersToldAlike_4 rfl (lv_at hl 3 rfl) ?_
      refine lv_iconst (v := 3) hx hb dX8_areChaptersToldAlike_5 (by decide) ?_
      refine lv_icmp_ge (tgt := 27) hx hb dX8_areChaptersToldAlike_6 (by decide) (fun b_1 => ?_) (fun b_1 => ?_)
      · have hr := it b_1 hr
        refine lv_iload_n hx hb dX8_areChaptersToldAlike_27 rfl (lv_at hl 2 rfl) ?_
        refine lv_aload_n hx hb dX8_areChaptersToldAlike_28 rfl (lv_at hl 0 rfl) ?_
        obtain ⟨q2, e2, hr⟩ := ob hr
        refine cal_i (run_V (As := []) (rest := [.int x2]) C hV hS (c_X8_countAllChapters l G b0 V k0 hk0 q2 e2) (rcv hK hV (kd_lt hk0 (by decide)) (cel_1 hk0) rfl) q_1520 q_539 q_8 q_94 q_540 dk_X8_countAllChapters (rm_ok (by decide) (by decide)) hl.1 rfl (Nat.le_of_ble_eq_true rfl) dX8_areChaptersToldAlike_29 ⟨Nat.zero_le _, Nat.zero_le _⟩) hS (fun H locs hV hS => ?_)
        refine lv_icmp_ne (tgt := 39) hx hb dX8_areChaptersToldAlike_32 (by decide) (fun b_3 => ?_) (fun b_3 => ?_)
        · have hr := ie b_3 hr
          refine lv_iconst (v := 0) hx hb dX8_areChaptersToldAlike_39 (by decide) ?_
          rw [← Option.some.inj hr]
          exact fin_z C hV hS (by decide) rfl dX8_areChaptersToldAlike_40
        · have hr := it b_3 hr
          refine lv_iconst (v := 1) hx hb dX8_areChaptersToldAlike_35 (by decide) ?_
          refine lv_goto (tgt := 40) hx hb dX8_areChaptersToldAlike_36 (by decide) ?_
          rw [← Option.some.inj hr]
          exact fin_z C hV hS (by decide) rfl dX8_areChaptersToldAlike_40
      · have hr := ie b_1 hr
        refine lv_iload_n hx hb dX8_areChaptersToldAlike_9 rfl (lv_at hl 2 rfl) ?_
        refine lv_aload_n hx hb dX8_areChaptersToldAlike_10 rfl (lv_at hl 0 rfl) ?_
        refine lv_iload_n hx hb dX8_areChaptersToldAlike_11 rfl (lv_at hl 3 rfl) ?_
        obtain ⟨q4, e4, hr⟩ := ob hr
        refine cal_r (run_V (As := [.int x3]) (rest := [.int x2]) C hV hS (c_X8_netNumbered l G b0 V k0 hk0 x3 q4 e4) (rcv hK hV (kd_lt hk0 (by decide)) (cel_1 hk0) rfl) q_534 q_485 q_1 q_94 q_486 dk_X8_netNumbered (rm_ok (by decide) (by decide)) hl.1 rfl (Nat.le_of_ble_eq_true rfl) dX8_areChaptersToldAlike_12 ⟨Nat.zero_le _, Nat.zero_le _⟩) hS (fun H locs hV hS => ?_)
        refine lv_aload_n hx hb dX8_areChaptersToldAlike_15 rfl (lv_at hl 1 rfl) ?_
        obtain ⟨q5, e5, hr⟩ := ob hr
        refine cal_i (run_VN (As := [.ref (b0 + 190)]) (rest := [.int x2]) C hV hS (c_X3_countChaptersByStrings l G b0 V q4 (kr_X8_netNumbered hk0 e4) q5 e5) (rcv hK hV (kd_lt (kr_X8_netNumbered hk0 e4) (by decide)) (cel_5 (kr_X8_netNumbered hk0 e4)) rfl) q_1519 q_1407 q_77 q_95 q_1408 dk_X3_countChaptersByStrings (rm_ok (by decide) (by decide)) hl.1 rfl (Nat.le_of_ble_eq_true rfl) dX8_areChaptersToldAlike_16 ⟨Nat.zero_le _, Nat.zero_le _⟩) hS (fun H locs hV hS => ?_)
        refine lv_iadd hx hb dX8_areChaptersToldAlike_19 ?_
        refine lv_istore_n (lv' := [(2, .int (x2 + q5.1)), (0, .ref (b0 + k0)), (1, .ref (b0 + 190)), (3, .int x3)]) hx hb dX8_areChaptersToldAlike_20 rfl hl (by decide) rfl (fun ls hl => ?_)
        refine lv_iinc (v := x3 + 1) (lv' := [(3, .int (x3 + 1)), (2, .int (x2 + q5.1)), (0, .ref (b0 + k0)), (1, .ref (b0 + 190))]) hx hb dX8_areChaptersToldAlike_21 hl (k := 3) rfl rfl (by decide) rfl (fun ls hl => ?_)
        refine lv_goto (tgt := 4) hx hb dX8_areChaptersToldAlike_24 (by decide) ?_
        exact ih _ k0 hk0 (x2 + q5.1) (x3 + 1) hr _ _ ls hV hS (lv_sub hl [2, 3, 1, 0] rfl)
  unfold f_X8_areChaptersToldAlike at hr
  refine lv_iconst (v := 0) hx hb dX8_areChaptersToldAlike_0 (by decide) ?_
  refine lv_istore_n (lv' := [(2, .int 0), (0, .ref (b0 + k0)), (1, .ref (b0 + 190))]) hx hb dX8_areChaptersToldAlike_1 rfl hl (by decide) rfl (fun ls hl => ?_)
  refine lv_iconst (v := 0) hx hb dX8_areChaptersToldAlike_2 (by decide) ?_
  refine lv_istore_n (lv' := [(3, .int 0), (2, .int 0), (0, .ref (b0 + k0)), (1, .ref (b0 + 190))]) hx hb dX8_areChaptersToldAlike_3 rfl hl (by decide) rfl (fun ls hl => ?_)
  exact K_4 500 _ k0 hk0 0 0 hr _ _ ls hV hS (lv_sub hl [2, 3, 1, 0] rfl)
set_option maxHeartbeats 4000000 in
set_option maxRecDepth 100000 in
theorem c_X8_areNotesToldAlike (l : Launch) (G : LG) (b0 : Nat) (V : St) (k0 : Nat) (hk0 : kd k0 = 1) (res : Int32 × St) (hr : f_X8_areNotesToldAlike V k0 = some res) : Met l yX8_areNotesToldAlike (wy yX8_areNotesToldAlike cX8_areNotesToldAlike 4 (some .boolean)) (rm 5) (va_Pc [.ref (b0 + k0), .ref (b0 + 190)] (Iv G b0 V)) (QI G b0 res.1 res.2) 0 0 (Ab b0) := by
  refine mk_m (by decide +kernel) (Nat.le_of_ble_eq_true rfl) ?_
  intro p e s m below meth c C hV hS ls hl
  obtain ⟨args, hargs⟩ : ∃ z, z = ([.ref (b0 + k0), .ref (b0 + 190)] : List Value).toArray := ⟨_, rfl⟩
  rw [← hargs] at C ⊢
  obtain ⟨hx, hb, hrt, hml, hown, hts, hlocks, hK, hSv⟩ := id C
  have hl : lv_has ls 4 [(0, .ref (b0 + k0)), (1, .ref (b0 + 190))] := hl
  have K_40 : ∀ (c_2 : St → Nat → Int32 → Option (Int32 × St)) (hc_2 : ∀ (V : St) (k0 : Nat) (hk0 : kd k0 = 1) (x2 : Int32), c_2 V k0 x2 = some res → ∀ (H : Heap) (locs : List Loc) (ls : Array Slot), Hd G b0 V H → va_S (Ab b0) s.heap H locs → lv_has ls 4 [(0, .ref (b0 + k0)), (1, .ref (b0 + 190)), (2, .int x2)] → W p l e (rm 5) s m args below meth c H locs 0 0 (MQ below (QI G b0 res.1 res.2) args s 0 0 (Ab b0)) (F0 m 2 ls [])) (V : St) (k0 : Nat) (hk0 : kd k0 = 1) (x2 : Int32), f_X8_areNotesToldAlike_b40 c_2 V k0 x2 = some res → ∀ (H : Heap) (locs : List Loc) (ls : Array Slot), Hd G b0 V H → va_S (Ab b0) s.heap H locs → lv_has ls 4 [(0, .ref (b0 + k0)), (1, .ref (b0 + 190)), (2, .int x2)] → W p l e (rm 5) s m args below meth c H locs 0 0 (MQ below (QI G b0 res.1 res.2) args s 0 0 (Ab b0)) (F0 m 40 ls []) := by
    intro c_2 hc_2 V k0 hk0 x2 hr H locs ls hV hS hl
    unfold f_X8_areNotesToldAlike_b40 at hr
    refine lv_iinc (v := x2 + 1) (lv' := [(2, .int (x2 + 1)), (0, .ref (b0 + k0)), (1, .ref (b0 + 190))]) hx hb dX8_areNotesToldAlike_40 hl (k := 2) rfl rfl (by decide) rfl (fun ls hl => ?_)
    refine lv_goto (tgt := 2) hx hb dX8_areNotesToldAlike_43 (by decide) ?_
    exact hc_2 _ k0 hk0 (x2 + 1) hr _ _ ls hV hS (lv_sub hl [1, 2, 0] rfl)
  have K_2 : ∀ (n : Nat) (V : St) (k0 : Nat) (hk0 : kd k0 = 1) (x2 : Int32), f_X8_areNotesToldAlike_b2 n V k0 x2 = some res → ∀ (H : Heap) (locs : List Loc) (ls : Array Slot), Hd G b0 V H → va_S (Ab b0) s.heap H locs → lv_has ls 4 [(0, .ref (b0 + k0)), (1, .ref (b0 + 190)), (2, .int x2)] → W p l e (rm 5) s m args below meth c H locs 0 0 (MQ below (QI G b0 res.1 res.2) args s 0 0 (Ab b0)) (F0 m 2 ls []) := by
    intro  n
    induction n with
    | zero =>
      intro V k0 hk0 x2 hr
      rw [f_X8_areNotesToldAlike_b2] at hr
      cases hr
    | succ n ih =>
      intro V k0 hk0 x2 hr H locs ls hV hS hl
      rw [f_X8_areNotesToldAlike_b2] at hr
      refine lv_iload_n hx hb dX8_areNotesToldAlike_2 rfl (lv_at hl 2 rfl) ?_
      refine lv_aload_n hx hb dX8_areNotesToldAlike_3 rfl (lv_at hl 0 rfl) ?_
      refine g_X8_4 (k := k0) C hV hk0 q_216 dX8_areNotesToldAlike_4 ?_
      refine lv_icmp_ge (tgt := 46) hx hb dX8_areNotesToldAlike_7 (by decide) (fun b_1 => ?_) (fun b_1 => ?_)
      · have hr := it b_1 hr
        refine lv_iconst (v := 1) hx hb dX8_areNotesToldAlike_46 (by decide) ?_
        rw [← Option.some.inj hr]
        exact fin_z C hV hS (by decide) rfl dX8_areNotesToldAlike_47
      · have hr := ie b_1 hr
        refine lv_aload_n hx hb dX8_areNotesToldAlike_10 rfl (lv_at hl 0 rfl) ?_
        refine lv_iload_n hx hb dX8_areNotesToldAlike_11 rfl (lv_at hl 2 rfl) ?_
        obtain ⟨q2, e2, hr⟩ := ob hr
        refine cal_r (run_V (As := [.int x2]) (rest := []) C hV hS (c_X8_noteNumbered l G b0 V k0 hk0 x2 q2 e2) (rcv hK hV (kd_lt hk0 (by decide)) (cel_1 hk0) rfl) q_563 q_565 q_14 q_94 q_566 dk_X8_noteNumbered (rm_ok (by decide) (by decide)) hl.1 rfl (Nat.le_of_ble_eq_true rfl) dX8_areNotesToldAlike_12 ⟨Nat.zero_le _, Nat.zero_le _⟩) hS (fun H locs hV hS => ?_)
        refine lv_astore_n (lv' := [(3, .ref (b0 + q2)), (0, .ref (b0 + k0)), (1, .ref (b0 + 190)), (2, .int x2)]) hx hb dX8_areNotesToldAlike_15 rfl hl (by decide) rfl (fun ls hl => ?_)
        refine lv_aload_n hx hb dX8_areNotesToldAlike_16 rfl (lv_at hl 1 rfl) ?_
        refine lv_aload_n hx hb dX8_areNotesToldAlike_17 rfl (lv_at hl 0 rfl) ?_
        obtain ⟨q3, e3, hr⟩ := ob hr
        refine cal_i (run_V (As := [.ref (b0 + q2)]) (rest := []) C hV hS (c_X8_canBeMended l G b0 V k0 hk0 q2 (kr_X8_noteNumbered hk0 e2) q3 e3) (rcv hK hV (kd_lt hk0 (by decide)) (cel_1 hk0) rfl) q_1525 q_1447 q_82 q_94 q_1448 dk_X8_canBeMended (rm_ok (by decide) (by decide)) hl.1 rfl (Nat.le_of_ble_eq_true rfl) dX8_areNotesToldAlike_18 ⟨Nat.zero_le _, Nat.zero_le _⟩) hS (fun H locs hV hS => ?_)
        refine lv_if_eq (tgt := 40) hx hb dX8_areNotesToldAlike_21 (by decide) (fun b_4 => ?_) (fun b_4 => ?_)
        · have hr := it b_4 hr
          exact K_40 (fun V k0 x2 => f_X8_areNotesToldAlike_b2 n V k0 x2) (fun V k0 hk0 x2 hr => ih V k0 hk0 x2 hr) _ k0 hk0 x2 hr _ _ ls hV hS (lv_sub hl [1, 2, 3] rfl)
        · have hr := ie b_4 hr
          refine lv_aload_n hx hb dX8_areNotesToldAlike_24 rfl (lv_at hl 1 rfl) ?_
          refine lv_aload_n hx hb dX8_areNotesToldAlike_25 rfl (lv_at hl 0 rfl) ?_
          refine lv_aload_n hx hb dX8_areNotesToldAlike_26 rfl (lv_at hl 2 rfl) ?_
          obtain ⟨q5, e5, hr⟩ := ob hr
          refine cal_i (run_V (As := [.ref (b0 + q2), .ref (b0 + 190)]) (rest := []) C hV hS (c_X8_leastByStrings l G b0 V k0 hk0 q2 (kr_X8_noteNumbered hk0 e2) q5 e5) (rcv hK hV (kd_lt hk0 (by decide)) (cel_1 hk0) rfl) q_1526 q_1456 q_84 q_94 q_1457 dk_X8_leastByStrings (rm_ok (by decide) (by decide)) hl.1 rfl (Nat.le_of_ble_eq_true rfl) dX8_areNotesToldAlike_27 ⟨Nat.zero_le _, Nat.zero_le _⟩) hS (fun H locs hV hS => ?_)
          refine lv_aload_n hx hb dX8_areNotesToldAlike_30 rfl (lv_at hl 1 rfl) ?_
          refine lv_aload_n hx hb dX8_areNotesToldAlike_31 rfl (lv_at hl 0 rfl) ?_
          obtain ⟨q6, e6, hr⟩ := ob hr
          refine cal_i (run_V (As := [.ref (b0 + q2)]) (rest := [.int q5.1]) C hV hS (c_X8_leastByPlaces l G b0 q5.2 k0 hk0 q2 (kr_X8_noteNumbered hk0 e2) q6 e6) (rcv hK hV (kd_lt hk0 (by decide)) (cel_1 hk0) rfl) q_1527 q_1471 q_86 q_94 q_1472 dk_X8_leastByPlaces (rm_ok (by decide) (by decide)) hl.1 rfl (Nat.le_of_ble_eq_true rfl) dX8_areNotesToldAlike_32 ⟨Nat.zero_le _, Nat.zero_le _⟩) hS (fun H locs hV hS => ?_)
          refine lv_icmp_eq (tgt := 40) hx hb dX8_areNotesToldAlike_35 (by decide) (fun b_7 => ?_) (fun b_7 => ?_)
          · have hr := it b_7 hr
            exact K_40 (fun V k0 x2 => f_X8_areNotesToldAlike_b2 n V k0 x2) (fun V k0 hk0 x2 hr => ih V k0 hk0 x2 hr) _ k0 hk0 x2 hr _ _ ls hV hS (lv_sub hl [1, 2, 3] rfl)
          · have hr := ie b_7 hr
            refine lv_iconst (v := 0) hx hb dX8_areNotesToldAlike_38 (by decide) ?_
            rw [← Option.some.inj hr]
            exact fin_z C hV hS (by decide) rfl dX8_areNotesToldAlike_39
  unfold f_X8_areNotesToldAlike at hr
  refine lv_iconst (v := 0) hx hb dX8_areNotesToldAlike_0 (by decide) ?_
  refine lv_istore_n (lv' := [(2, .int 0), (0, .ref (b0 + k0)), (1, .ref (b0 + 190))]) hx hb dX8_areNotesToldAlike_1 rfl hl (by decide) rfl (fun ls hl => ?_)
  exact K_2 500 _ k0 hk0 0 hr _ _ ls hV hS (lv_sub hl [1, 2, 0] rfl)
set_option maxHeartbeats 4000000 in
set_option maxRecDepth 100000 in
theorem c_X9_found (l : Launch) (G : LG) (b0 : Nat) (V : St) (x1 : Int32) (x2 : Int32) (res : Int32 × St) (hr : f_X9_found V x1 x2 = some res) : Met l yX9_found (wy yX9_found cX9_found 3 (some .int)) (rm 0) (va_Pc [.ref (b0 + 0), .int x1, .int x2] (Iv G b0 V)) (QI G b0 res.1 res.2) 0 0 (Ab b0) := by
  refine mk_m (by decide +kernel) (Nat.le_of_ble_eq_true rfl) ?_
  intro p e s m below meth c C hV hS ls hl
  obtain ⟨args, hargs⟩ : ∃ z, z = ([.ref (b0 + 0), .int x1, .int x2] : List Value).toArray := ⟨_, rfl⟩
  rw [← hargs] at C ⊢
  obtain ⟨hx, hb, hrt, hml, hown, hts, hlocks, hK, hSv⟩ := id C
  have hl : lv_has ls 3 [(0, .ref (b0 + 0)), (1, .int x1), (2, .int x2)] := hl
  unfold f_X9_found at hr
  refine lv_aload_n hx hb dX9_found_0 rfl (lv_at hl 0 rfl) ?_
  refine lv_iload_n hx hb dX9_found_1 rfl (lv_at hl 2 rfl) ?_
  refine p_X9_9 (x := x2) C hV hS q_348 dX9_found_2 (fun H locs hV hS => ?_)
  refine lv_iload_n hx hb dX9_found_5 rfl (lv_at hl 1 rfl) ?_
  rw [← Option.some.inj hr]
  exact fin_i C hV hS rfl dX9_found_6
set_option maxHeartbeats 4000000 in
set_option maxRecDepth 100000 in
theorem c_X9_reasonAgainstKnot (l : Launch) (G : LG) (b0 : Nat) (V : St) (x1 : Int32) (x2 : Int32) (x3 : Int32) (res : Int32 × St) (hr : f_X9_reasonAgainstKnot V x1 x2 x3 = some res) : Met l yX9_reasonAgainstKnot (wy yX9_reasonAgainstKnot cX9_reasonAgainstKnot 4 (some .int)) (rm 2) (va_Pc [.ref (b0 + 0), .int x1, .int x2, .int x3] (Iv G b0 V)) (QI G b0 res.1 res.2) 0 0 (Ab b0) := by
  refine mk_m (by decide +kernel) (Nat.le_of_ble_eq_true rfl) ?_
  intro p e s m below meth c C hV hS ls hl
  obtain ⟨args, hargs⟩ : ∃ z, z = ([.ref (b0 + 0), .int x1, .int x2, .int x3] : List Value).toArray := ⟨_, rfl⟩
  rw [← hargs] at C ⊢
  obtain ⟨hx, hb, hrt, hml, hown, hts, hlocks, hK, hSv⟩ := id C
  have hl : lv_has ls 4 [(0, .ref (b0 + 0)), (1, .int x1), (2, .int x2), (3, .int x3)] := hl
  have K_37 : ∀ (V : St) (x3 : Int32), f_X9_reasonAgainstKnot_b37 V x3 = some res → ∀ (H : Heap) (locs : List Loc) (ls : Array Slot), Hd G b0 V H → va_S (Ab b0) s.heap H locs → lv_has ls 4 [(0, .ref (b0 + 0)), (3, .int x3)] → W p l e (rm 2) s m args below meth c H locs 0 0 (MQ below (QI G b0 res.1 res.2) args s 0 0 (Ab b0)) (F0 m 37 ls []) := by
    intro V x3 hr H locs ls hV hS hl
    unfold f_X9_reasonAgainstKnot_b37 at hr
    refine lv_aload_n hx hb dX9_reasonAgainstKnot_37 rfl (lv_at hl 0 rfl) ?_
    refine lv_iconst (v := 3) hx hb dX9_reasonAgainstKnot_38 (by decide) ?_
    refine lv_iload_n hx hb dX9_reasonAgainstKnot_39 rfl (lv_at hl 1 rfl) ?_
    obtain ⟨q1, e1, hr⟩ := ob hr
    refine cal_i (run_V (As := [.int 3, .int x3]) (rest := []) C hV hS (c_X9_found l G b0 V 3 x3 q1 e1) (rcv hK hV (kd_lt z_0 (by decide)) (cel_0 z_0) rfl) q_612 q_614 q_19 q_93 q_615 dk_X9_found (rm_ok (by decide) (by decide)) hl.1 rfl (Nat.le_of_ble_eq_true rfl) dX9_reasonAgainstKnot_40 ⟨Nat.zero_le _, Nat.zero_le _⟩) hS (fun H locs hV hS => ?_)
    rw [← Option.some.inj hr]
    exact fin_i C hV hS rfl dX9_reasonAgainstKnot_43
  unfold f_X9_reasonAgainstKnot at hr
  refine lv_iload_n hx hb dX9_reasonAgainstKnot_0 rfl (lv_at hl 1 rfl) ?_
  obtain ⟨q2, e2, hr⟩ := ob hr
  refine cal_i (run_S (As := [.int x1]) (rest := []) C hV hS (c_X9_isNet l G b0 V x1 q2 e2) q_467 q_468 q_93 q_469 dk_X9_isNet (rm_ok (by decide) (by decide)) hl.1 rfl (Nat.le_of_ble_eq_true rfl) dX9_reasonAgainstKnot_1 ⟨Nat.zero_le _, Nat.zero_le _⟩) hS (fun H locs hV hS => ?_)
  refine lv_if_ne (tgt := 14) hx hb dX9_reasonAgainstKnot_4 (by decide) (fun b_3 => ?_) (fun b_3 => ?_)
  · have hr := ie b_3 hr
    refine lv_iload_n hx hb dX9_reasonAgainstKnot_14 rfl (lv_at hl 2 rfl) ?_
    obtain ⟨q4, e4, hr⟩ := ob hr
    refine cal_i (run_S (As := [.int x2]) (rest := []) C hV hS (c_X9_isPlace l G b0 V x2 q4 e4) q_616 q_617 q_93 q_618 dk_X9_isPlace (rm_ok (by decide) (by decide)) hl.1 rfl (Nat.le_of_ble_eq_true rfl) dX9_reasonAgainstKnot_15 ⟨Nat.zero_le _, Nat.zero_le _⟩) hS (fun H locs hV hS => ?_)
    refine lv_if_ne (tgt := 28) hx hb dX9_reasonAgainstKnot_18 (by decide) (fun b_5 => ?_) (fun b_5 => ?_)
    · have hr := ie b_5 hr
      refine lv_iload_n hx hb dX9_reasonAgainstKnot_28 rfl (lv_at hl 3 rfl) ?_
      refine lv_if_lt (tgt := 37) hx hb dX9_reasonAgainstKnot_29 (by decide) (fun b_6 => ?_) (fun b_6 => ?_)
      · have hr := it b_6 hr
        exact K_37 _ x3 hr _ _ ls hV hS (lv_sub hl [0, 3] rfl)
      · have hr := ie b_6 hr
        refine lv_iload_n hx hb dX9_reasonAgainstKnot_32 rfl (lv_at hl 3 rfl) ?_
        refine lv_iconst (v := 3) hx hb dX9_reasonAgainstKnot_33 (by decide) ?_
        refine lv_icmp_le (tgt := 44) hx hb dX9_reasonAgainstKnot_34 (by decide) (fun b_7 => ?_) (fun b_7 => ?_)
        · have hr := it b_7 hr
          refine lv_aload_n hx hb dX9_reasonAgainstKnot_44 rfl (lv_at hl 0 rfl) ?_
          refine g_X9_0 C hV q_339 dX9_reasonAgainstKnot_45 ?_
          refine lv_iload_n hx hb dX9_reasonAgainstKnot_48 rfl (lv_at hl 1 rfl) ?_
          obtain ⟨q8, e8, hr⟩ := ob hr
          refine cal_r (run_VN (As := [.int x1]) (rest := []) C hV hS (c_X8_netNumbered l G b0 V 1 z_1 x1 q8 e8) (rcv hK hV (kd_lt z_1 (by decide)) (cel_1 z_1) rfl) q_483 q_485 q_1 q_94 q_486 dk_X8_netNumbered (rm_ok (by decide) (by decide)) hl.1 rfl (Nat.le_of_ble_eq_true rfl) dX9_reasonAgainstKnot_49 ⟨Nat.zero_le _, Nat.zero_le _⟩) hS (fun H locs hV hS => ?_)
          refine lv_iload_n hx hb dX9_reasonAgainstKnot_52 rfl (lv_at hl 2 rfl) ?_
          obtain ⟨q9, e9, hr⟩ := ob hr
          refine cal_i (run_VN (As := [.int x2]) (rest := []) C hV hS (c_X3_kindAt l G b0 V q8 (kr_X8_netNumbered z_1 e8) x2 q9 e9) (rcv hK hV (kd_lt (kr_X8_netNumbered z_1 e8) (by decide)) (cel_5 (kr_X8_netNumbered z_1 e8)) rfl) q_619 q_621 q_20 q_95 q_622 dk_X3_kindAt (rm_ok (by decide) (by decide)) hl.1 rfl (Nat.le_of_ble_eq_true rfl) dX9_reasonAgainstKnot_53 ⟨Nat.zero_le _, Nat.zero_le _⟩) hS (fun H locs hV hS => ?_)
          refine lv_iload_n hx hb dX9_reasonAgainstKnot_56 rfl (lv_at hl 3 rfl) ?_
          refine lv_icmp_ne (tgt := 67) hx hb dX9_reasonAgainstKnot_57 (by decide) (fun b_10 => ?_) (fun b_10 => ?_)
          · have hr := ie b_10 hr
            refine lv_iconst (v := 0) hx hb dX9_reasonAgainstKnot_67 (by decide) ?_
            rw [← Option.some.inj hr]
            exact fin_i C hV hS rfl dX9_reasonAgainstKnot_68
          · have hr := it b_10 hr
            refine lv_aload_n hx hb dX9_reasonAgainstKnot_60 rfl (lv_at hl 0 rfl) ?_
            refine lv_iconst (v := 4) hx hb dX9_reasonAgainstKnot_61 (by decide) ?_
            refine lv_iload_n hx hb dX9_reasonAgainstKnot_62 rfl (lv_at hl 3 rfl) ?_
            obtain ⟨q11, e11, hr⟩ := ob hr
            refine cal_i (run_V (As := [.int 4, .int x3]) (rest := []) C hV hS (c_X9_found l G b0 V 4 x3 q11 e11) (rcv hK hV (kd_lt z_0 (by decide)) (cel_0 z_0) rfl) q_612 q_614 q_19 q_93 q_615 dk_X9_found (rm_ok (by decide) (by decide)) hl.1 rfl (Nat.le_of_ble_eq_true rfl) dX9_reasonAgainstKnot_63 ⟨Nat.zero_le _, Nat.zero_le _⟩) hS (fun H locs hV hS => ?_)
            rw [← Option.some.inj hr]
            exact fin_i C hV hS rfl dX9_reasonAgainstKnot_66
        · have hr := ie b_7 hr
          exact K_37 _ x3 hr _ _ ls hV hS (lv_sub hl [0, 3] rfl)
    · have hr := it b_5 hr
      refine lv_aload_n hx hb dX9_reasonAgainstKnot_21 rfl (lv_at hl 0 rfl) ?_
      refine lv_iconst (v := 2) hx hb dX9_reasonAgainstKnot_22 (by decide) ?_
      refine lv_iload_n hx hb dX9_reasonAgainstKnot_23 rfl (lv_at hl 2 rfl) ?_
      obtain ⟨q12, e12, hr⟩ := ob hr
      refine cal_i (run_V (As := [.int 2, .int x2]) (rest := []) C hV hS (c_X9_found l G b0 V 2 x2 q12 e12) (rcv hK hV (kd_lt z_0 (by decide)) (cel_0 z_0) rfl) q_612 q_614 q_19 q_93 q_615 dk_X9_found (rm_ok (by decide) (by decide)) hl.1 rfl (Nat.le_of_ble_eq_true rfl) dX9_reasonAgainstKnot_24 ⟨Nat.zero_le _, Nat.zero_le _⟩) hS (fun H locs hV hS => ?_)
      rw [← Option.some.inj hr]
      exact fin_i C hV hS rfl dX9_reasonAgainstKnot_27
  · have hr := it b_3 hr
    refine lv_aload_n hx hb dX9_reasonAgainstKnot_7 rfl (lv_at hl 0 rfl) ?_
    refine lv_iconst (v := 2) hx hb dX9_reasonAgainstKnot_8 (by decide) ?_
    refine lv_iload_n hx hb dX9_reasonAgainstKnot_9 rfl (lv_at hl 1 rfl) ?_
    obtain ⟨q13, e13, hr⟩ := ob hr
    refine cal_i (run_V (As := [.int 2, .int x1]) (rest := []) C hV hS (c_X9_found l G b0 V 2 x1 q13 e13) (rcv hK hV (kd_lt z_0 (by decide)) (cel_0 z_0) rfl) q_612 q_614 q_19 q_93 q_615 dk_X9_found (rm_ok (by decide) (by decide)) hl.1 rfl (Nat.le_of_ble_eq_true rfl) dX9_reasonAgainstKnot_10 ⟨Nat.zero_le _, Nat.zero_le _⟩) hS (fun H locs hV hS => ?_)
    rw [← Option.some.inj hr]
    exact fin_i C hV hS rfl dX9_reasonAgainstKnot_13
set_option maxHeartbeats 4000000 in
set_option maxRecDepth 100000 in
theorem c_X9_keepsReason (l : Launch) (G : LG) (b0 : Nat) (V : St) (x1 : Int32) (res : Int32 × St) (hr : f_X9_keepsReason V x1 = some res) : Met l yX9_keepsReason (wy yX9_keepsReason cX9_keepsReason 2 (some .boolean)) (rm 1) (va_Pc [.ref (b0 + 0), .int x1] (Iv G b0 V)) (QI G b0 res.1 res.2) 0 0 (Ab b0) := by
  refine mk_m (by decide +kernel) (Nat.le_of_ble_eq_true rfl) ?_
  intro p e s m below meth c C hV hS ls hl
  obtain ⟨args, hargs⟩ : ∃ z, z = ([.ref (b0 + 0), .int x1] : List Value).toArray := ⟨_, rfl⟩
  rw [← hargs] at C ⊢
  obtain ⟨hx, hb, hrt, hml, hown, hts, hlocks, hK, hSv⟩ := id C
  have hl : lv_has ls 2 [(0, .ref (b0 + 0)), (1, .int x1)] := hl
  unfold f_X9_keepsReason at hr
  refine lv_iload_n hx hb dX9_keepsReason_0 rfl (lv_at hl 1 rfl) ?_
  refine lv_if_ne (tgt := 6) hx hb dX9_keepsReason_1 (by decide) (fun b_1 => ?_) (fun b_1 => ?_)
  · have hr := ie b_1 hr
    refine lv_aload_n hx hb dX9_keepsReason_6 rfl (lv_at hl 0 rfl) ?_
    refine g_X9_8 C hV q_347 dX9_keepsReason_7 ?_
    refine lv_iload_n hx hb dX9_keepsReason_10 rfl (lv_at hl 1 rfl) ?_
    refine lv_aload_n hx hb dX9_keepsReason_11 rfl (lv_at hl 0 rfl) ?_
    refine g_X9_9 C hV q_348 dX9_keepsReason_12 ?_
    obtain ⟨q2, e2, hr⟩ := ob hr
    refine cal_v (run_VN (As := [.int x1, .int (V 0 9)]) (rest := []) C hV hS (c_X6_keepAlone l G b0 V x1 (V 0 9) q2 e2) (rcv hK hV (kd_lt z_207 (by decide)) (cel_19 z_207) rfl) q_630 q_632 q_22 q_102 q_633 dk_X6_keepAlone (rm_ok (by decide) (by decide)) hl.1 rfl (Nat.le_of_ble_eq_true rfl) dX9_keepsReason_15 ⟨Nat.zero_le _, Nat.zero_le _⟩) hS (fun H locs hV hS => ?_)
    refine lv_iconst (v := 1) hx hb dX9_keepsReason_18 (by decide) ?_
    rw [← Option.some.inj hr]
    exact fin_z C hV hS (by decide) rfl dX9_keepsReason_19
  · have hr := it b_1 hr
    refine lv_iconst (v := 0) hx hb dX9_keepsReason_4 (by decide) ?_
    rw [← Option.some.inj hr]
    exact fin_z C hV hS (by decide) rfl dX9_keepsReason_5
set_option maxHeartbeats 4000000 in
set_option maxRecDepth 100000 in
theorem c_X9_knot (l : Launch) (hfl : l.stackTraces = false) (G : LG) (b0 : Nat) (V : St) (x1 : Int32) (x2 : Int32) (x3 : Int32) (res : (Except Nat Int32) × St) (hr : f_X9_knot V x1 x2 x3 = some res) : vx_Met l yX9_knot (wy yX9_knot cX9_knot 5 (some .int)) (rmx 6) (va_Pc [.ref (b0 + 0), .int x1, .int x2, .int x3] (Iv G b0 V)) (QIx G b0 res.1 res.2) (XX G b0 (xe res.1) res.2) 1 6 (Ab b0) := by
  refine mk_x (by decide +kernel) (Nat.le_of_ble_eq_true rfl) ?_
  intro p e s m below meth c C ht hV hS ls hl
  obtain ⟨args, hargs⟩ : ∃ z, z = ([.ref (b0 + 0), .int x1, .int x2, .int x3] : List Value).toArray := ⟨_, rfl⟩
  rw [← hargs] at C ⊢
  obtain ⟨hx, hb, hrt, hml, hown, hts, hlocks, hK, hSv⟩ := id C
  have hl : lv_has ls 5 [(0, .ref (b0 + 0)), (1, .int x1), (2, .int x2), (3, .int x3)] := hl
  unfold f_X9_knot at hr
  refine lv_aload_n hx hb dX9_knot_0 rfl (lv_at hl 0 rfl) ?_
  refine lv_aload_n hx hb dX9_knot_1 rfl (lv_at hl 0 rfl) ?_
  refine lv_iload_n hx hb dX9_knot_2 rfl (lv_at hl 1 rfl) ?_
  refine lv_iload_n hx hb dX9_knot_3 rfl (lv_at hl 2 rfl) ?_
  refine lv_iload_n hx hb dX9_knot_4 rfl (lv_at hl 3 rfl) ?_
  obtain ⟨q1, e1, hr⟩ := ob hr
  refine cal_i (run_V (As := [.int x1, .int x2, .int x3]) (rest := [.ref (b0 + 0)]) C hV hS (c_X9_reasonAgainstKnot l G b0 V x1 x2 x3 q1 e1) (rcv hK hV (kd_lt z_0 (by decide)) (cel_0 z_0) rfl) q_608 q_610 q_18 q_93 q_611 dk_X9_reasonAgainstKnot (rmx_ok (by decide) (by decide)) hl.1 rfl (Nat.le_of_ble_eq_true rfl) dX9_knot_5 ⟨Nat.zero_le _, Nat.zero_le _⟩) hS (fun H locs hV hS => ?_)
  obtain ⟨q2, e2, hr⟩ := ob hr
  refine cal_i (run_V (As := [.int q1.1]) (rest := []) C hV hS (c_X9_keepsReason l G b0 q1.2 q1.1 q2 e2) (rcv hK hV (kd_lt z_0 (by decide)) (cel_0 z_0) rfl) q_626 q_628 q_21 q_93 q_629 dk_X9_keepsReason (rmx_ok (by decide) (by decide)) hl.1 rfl (Nat.le_of_ble_eq_true rfl) dX9_knot_8 ⟨Nat.zero_le _, Nat.zero_le _⟩) hS (fun H locs hV hS => ?_)
  refine lv_if_eq (tgt := 24) hx hb dX9_knot_11 (by decide) (fun b_3 => ?_) (fun b_3 => ?_)
  · have hr := it b_3 hr
    refine lv_aload_n hx hb dX9_knot_24 rfl (lv_at hl 0 rfl) ?_
    refine g_X9_4 C hV q_343 dX9_knot_25 ?_
    refine lv_aload_n hx hb dX9_knot_28 rfl (lv_at hl 0 rfl) ?_
    refine g_X9_0 C hV q_339 dX9_knot_29 ?_
    obtain ⟨q4, e4, hr⟩ := ob hr
    refine cal_v (run_VN (As := [.ref (b0 + 1)]) (rest := []) C hV hS (c_X1_push l G b0 q2.2 1 z_1 q4 e4) (rcv hK hV (kd_lt z_52 (by decide)) (cel_8 z_52) rfl) q_650 q_652 q_23 q_98 q_653 dk_X1_push (rmx_ok (by decide) (by decide)) hl.1 rfl (Nat.le_of_ble_eq_true rfl) dX9_knot_32 ⟨Nat.zero_le _, Nat.zero_le _⟩) hS (fun H locs hV hS => ?_)
    refine lv_aload_n hx hb dX9_knot_35 rfl (lv_at hl 0 rfl) ?_
    refine g_X9_0 C hV q_339 dX9_knot_36 ?_
    refine lv_iload_n hx hb dX9_knot_39 rfl (lv_at hl 1 rfl) ?_
    obtain ⟨q5, e5, hr⟩ := ob hr
    refine cal_r (run_VN (As := [.int x1]) (rest := []) C hV hS (c_X8_netNumbered l G b0 q4 1 z_1 x1 q5 e5) (rcv hK hV (kd_lt z_1 (by decide)) (cel_1 z_1) rfl) q_483 q_485 q_1 q_94 q_486 dk_X8_netNumbered (rmx_ok (by decide) (by decide)) hl.1 rfl (Nat.le_of_ble_eq_true rfl) dX9_knot_40 ⟨Nat.zero_le _, Nat.zero_le _⟩) hS (fun H locs hV hS => ?_)
    refine lv_iload_n hx hb dX9_knot_43 rfl (lv_at hl 2 rfl) ?_
    obtain ⟨q6, e6, hr⟩ := ob hr
    refine cal_i (run_VN (As := [.int x2]) (rest := []) C hV hS (c_X3_kindAt l G b0 q4 q5 (kr_X8_netNumbered z_1 e5) x2 q6 e6) (rcv hK hV (kd_lt (kr_X8_netNumbered z_1 e5) (by decide)) (cel_5 (kr_X8_netNumbered z_1 e5)) rfl) q_619 q_621 q_20 q_95 q_622 dk_X3_kindAt (rmx_ok (by decide) (by decide)) hl.1 rfl (Nat.le_of_ble_eq_true rfl) dX9_knot_44 ⟨Nat.zero_le _, Nat.zero_le _⟩) hS (fun H locs hV hS => ?_)
    refine lv_istore (lv' := [(4, .int q6), (0, .ref (b0 + 0)), (1, .int x1), (2, .int x2), (3, .int x3)]) hx hb dX9_knot_47 hl (by decide) rfl (fun ls hl => ?_)
    refine lv_aload_n hx hb dX9_knot_49 rfl (lv_at hl 1 rfl) ?_
    refine g_X9_0 C hV q_339 dX9_knot_50 ?_
    refine lv_iload_n hx hb dX9_knot_53 rfl (lv_at hl 2 rfl) ?_
    obtain ⟨q7, e7, hr⟩ := ob hr
    refine cal_r (run_VN (As := [.int x1]) (rest := []) C hV hS (c_X8_netNumbered l G b0 q4 1 z_1 x1 q7 e7) (rcv hK hV (kd_lt z_1 (by decide)) (cel_1 z_1) rfl) q_483 q_485 q_1 q_94 q_486 dk_X8_netNumbered (rmx_ok (by decide) (by decide)) hl.1 rfl (Nat.le_of_ble_eq_true rfl) dX9_knot_54 ⟨Nat.zero_le _, Nat.zero_le _⟩) hS (fun H locs hV hS => ?_)
    refine lv_iload_n hx hb dX9_knot_57 rfl (lv_at hl 3 rfl) ?_
    refine lv_iload_n hx hb dX9_knot_58 rfl (lv_at hl 4 rfl) ?_
    obtain ⟨q8, e8, hr⟩ := ob hr
    refine cal_v (run_VN (As := [.int x2, .int x3]) (rest := []) C hV hS (c_X3_tie l G b0 q4 q7 (kr_X8_netNumbered z_1 e7) x2 x3 q8 e8) (rcv hK hV (kd_lt (kr_X8_netNumbered z_1 e7) (by decide)) (cel_5 (kr_X8_netNumbered z_1 e7)) rfl) q_673 q_675 q_28 q_95 q_676 dk_X3_tie (rmx_ok (by decide) (by decide)) hl.1 rfl (Nat.le_of_ble_eq_true rfl) dX9_knot_59 ⟨Nat.zero_le _, Nat.zero_le _⟩) hS (fun H locs hV hS => ?_)
    refine lv_iload hx hb dX9_knot_62 (lv_at hl 0 rfl) ?_
    rw [← Option.some.inj hr]
    exact fin_ix C hV hS rfl dX9_knot_64
  · have hr := ie b_3 hr
    rw [← Option.some.inj hr]
    exact th_0 (ik := 76) (is := 78) (ic := 80) C hfl ht hV hS hl.1 q_634 (st_2 hK) q_644 dX9_knot_14 dX9_knot_17 dX9_knot_18 dX9_knot_20 dX9_knot_23 (Nat.le_of_ble_eq_true rfl) (Nat.le_of_ble_eq_true rfl)
set_option maxHeartbeats 4000000 in
set_option maxRecDepth 100000 in
theorem c_X9_reasonAgainstEnds (l : Launch) (G : LG) (b0 : Nat) (V : St) (x1 : Int32) (x2 : Int32) (x3 : Int32) (res : Int32 × St) (hr : f_X9_reasonAgainstEnds V x1 x2 x3 = some res) : Met l yX9_reasonAgainstEnds (wy yX9_reasonAgainstEnds cX9_reasonAgainstEnds 4 (some .int)) (rm 1) (va_Pc [.ref (b0 + 0), .int x1, .int x2, .int x3] (Iv G b0 V)) (QI G b0 res.1 res.2) 0 0 (Ab b0) := by
  refine mk_m (by decide +kernel) (Nat.le_of_ble_eq_true rfl) ?_
  intro p e s m below meth c C hV hS ls hl
  obtain ⟨args, hargs⟩ : ∃ z, z = ([.ref (b0 + 0), .int x1, .int x2, .int x3] : List Value).toArray := ⟨_, rfl⟩
  rw [← hargs] at C ⊢
  obtain ⟨hx, hb, hrt, hml, hown, hts, hlocks, hK, hSv⟩ := id C
  have hl : lv_has ls 4 [(0, .ref (b0 + 0)), (1, .int x1), (2, .int x2), (3, .int x3)] := hl
  unfold f_X9_reasonAgainstEnds at hr
  refine lv_iload_n hx hb dX9_reasonAgainstEnds_0 rfl (lv_at hl 1 rfl) ?_
  obtain ⟨q1, e1, hr⟩ := ob hr
  refine cal_i (run_S (As := [.int x1]) (rest := []) C hV hS (c_X9_isNet l G b0 V x1 q1 e1) q_467 q_468 q_93 q_469 dk_X9_isNet (rm_ok (by decide) (by decide)) hl.1 rfl (Nat.le_of_ble_eq_true rfl) dX9_reasonAgainstEnds_1 ⟨Nat.zero_le _, Nat.zero_le _⟩) hS (fun H locs hV hS => ?_)
  refine lv_if_ne (tgt := 14) hx hb dX9_reasonAgainstEnds_4 (by decide) (fun b_2 => ?_) (fun b_2 => ?_)
  · have hr := ie b_2 hr
    refine lv_iload_n hx hb dX9_reasonAgainstEnds_14 rfl (lv_at hl 2 rfl) ?_
    obtain ⟨q3, e3, hr⟩ := ob hr
    refine cal_i (run_S (As := [.int x2]) (rest := []) C hV hS (c_X9_isPlace l G b0 V x2 q3 e3) q_616 q_617 q_93 q_618 dk_X9_isPlace (rm_ok (by decide) (by decide)) hl.1 rfl (Nat.le_of_ble_eq_true rfl) dX9_reasonAgainstEnds_15 ⟨Nat.zero_le _, Nat.zero_le _⟩) hS (fun H locs hV hS => ?_)
    refine lv_if_ne (tgt := 28) hx hb dX9_reasonAgainstEnds_18 (by decide) (fun b_4 => ?_) (fun b_4 => ?_)
    · have hr := ie b_4 hr
      refine lv_iload_n hx hb dX9_reasonAgainstEnds_28 rfl (lv_at hl 3 rfl) ?_
      obtain ⟨q5, e5, hr⟩ := ob hr
      refine cal_i (run_S (As := [.int x3]) (rest := []) C hV hS (c_X9_isPlace l G b0 V x3 q5 e5) q_616 q_617 q_93 q_618 dk_X9_isPlace (rm_ok (by decide) (by decide)) hl.1 rfl (Nat.le_of_ble_eq_true rfl) dX9_reasonAgainstEnds_29 ⟨Nat.zero_le _, Nat.zero_le _⟩) hS (fun H locs hV hS => ?_)
      refine lv_if_ne (tgt := 42) hx hb dX9_reasonAgainstEnds_32 (by decide) (fun b_6 => ?_) (fun b_6 => ?_)
      · have hr := ie b_6 hr
        refine lv_iconst (v := 0) hx hb dX9_reasonAgainstEnds_42 (by decide) ?_
        rw [← Option.some.inj hr]
        exact fin_i C hV hS rfl dX9_reasonAgainstEnds_43
      · have hr := it b_6 hr
        refine lv_aload_n hx hb dX9_reasonAgainstEnds_35 rfl (lv_at hl 0 rfl) ?_
        refine lv_iconst (v := 2) hx hb dX9_reasonAgainstEnds_36 (by decide) ?_
        refine lv_iload_n hx hb dX9_reasonAgainstEnds_37 rfl (lv_at hl 3 rfl) ?_
        obtain ⟨q7, e7, hr⟩ := ob hr
        refine cal_i (run_V (As := [.int 2, .int x3]) (rest := []) C hV hS (c_X9_found l G b0 V 2 x3 q7 e7) (rcv hK hV (kd_lt z_0 (by decide)) (cel_0 z_0) rfl) q_612 q_614 q_19 q_93 q_615 dk_X9_found (rm_ok (by decide) (by decide)) hl.1 rfl (Nat.le_of_ble_eq_true rfl) dX9_reasonAgainstEnds_38 ⟨Nat.zero_le _, Nat.zero_le _⟩) hS (fun H locs hV hS => ?_)
        rw [← Option.some.inj hr]
        exact fin_i C hV hS rfl dX9_reasonAgainstEnds_41
    · have hr := it b_4 hr
      refine lv_aload_n hx hb dX9_reasonAgainstEnds_21 rfl (lv_at hl 0 rfl) ?_
      refine lv_iconst (v := 2) hx hb dX9_reasonAgainstEnds_22 (by decide) ?_
      refine lv_iload_n hx hb dX9_reasonAgainstEnds_23 rfl (lv_at hl 2 rfl) ?_
      obtain ⟨q8, e8, hr⟩ := ob hr
      refine cal_i (run_V (As := [.int 2, .int x2]) (rest := []) C hV hS (c_X9_found l G b0 V 2 x2 q8 e8) (rcv hK hV (kd_lt z_0 (by decide)) (cel_0 z_0) rfl) q_612 q_614 q_19 q_93 q_615 dk_X9_found (rm_ok (by decide) (by decide)) hl.1 rfl (Nat.le_of_ble_eq_true rfl) dX9_reasonAgainstEnds_24 ⟨Nat.zero_le _, Nat.zero_le _⟩) hS (fun H locs hV hS => ?_)
      rw [← Option.some.inj hr]
      exact fin_i C hV hS rfl dX9_reasonAgainstEnds_27
  · have hr := it b_2 hr
    refine lv_aload_n hx hb dX9_reasonAgainstEnds_7 rfl (lv_at hl 0 rfl) ?_
    refine lv_iconst (v := 2) hx hb dX9_reasonAgainstEnds_8 (by decide) ?_
    refine lv_iload_n hx hb dX9_reasonAgainstEnds_9 rfl (lv_at hl 1 rfl) ?_
    obtain ⟨q9, e9, hr⟩ := ob hr
    refine cal_i (run_V (As := [.int 2, .int x1]) (rest := []) C hV hS (c_X9_found l G b0 V 2 x1 q9 e9) (rcv hK hV (kd_lt z_0 (by decide)) (cel_0 z_0) rfl) q_612 q_614 q_19 q_93 q_615 dk_X9_found (rm_ok (by decide) (by decide)) hl.1 rfl (Nat.le_of_ble_eq_true rfl) dX9_reasonAgainstEnds_10 ⟨Nat.zero_le _, Nat.zero_le _⟩) hS (fun H locs hV hS => ?_)
    rw [← Option.some.inj hr]
    exact fin_i C hV hS rfl dX9_reasonAgainstEnds_13
set_option maxHeartbeats 4000000 in
set_option maxRecDepth 100000 in
theorem c_X9_reasonAgainstString (l : Launch) (G : LG) (b0 : Nat) (V : St) (x1 : Int32) (x2 : Int32) (x3 : Int32) (x4 : Int32) (res : Int32 × St) (hr : f_X9_reasonAgainstString V x1 x2 x3 x4 = some res) : Met l yX9_reasonAgainstString (wy yX9_reasonAgainstString cX9_reasonAgainstString 5 (some .int)) (rm 3) (va_Pc [.ref (b0 + 0), .int x1, .int x2, .int x3, .int x4] (Iv G b0 V)) (QI G b0 res.1 res.2) 0 0 (Ab b0) := by
  refine mk_m (by decide +kernel) (Nat.le_of_ble_eq_true rfl) ?_
  intro p e s m below meth c C hV hS ls hl
  obtain ⟨args, hargs⟩ : ∃ z, z = ([.ref (b0 + 0), .int x1, .int x2, .int x3, .int x4] : List Value).toArray := ⟨_, rfl⟩
  rw [← hargs] at C ⊢
  obtain ⟨hx, hb, hrt, hml, hown, hts, hlocks, hK, hSv⟩ := id C
  have hl : lv_has ls 5 [(0, .ref (b0 + 0)), (1, .int x1), (2, .int x2), (3, .int x3), (4, .int x4)] := hl
  unfold f_X9_reasonAgainstString at hr
  refine lv_iload_n hx hb dX9_reasonAgainstString_0 rfl (lv_at hl 2 rfl) ?_
  refine lv_iload_n hx hb dX9_reasonAgainstString_1 rfl (lv_at hl 3 rfl) ?_
  obtain ⟨q1, e1, hr⟩ := ob hr
  refine cal_i (run_S (As := [.int x2, .int x3]) (rest := []) C hV hS (c_X9_areBeside l G b0 V x2 x3 q1 e1) q_699 q_700 q_93 q_701 dk_X9_areBeside (rm_ok (by decide) (by decide)) hl.1 rfl (Nat.le_of_ble_eq_true rfl) dX9_reasonAgainstString_2 ⟨Nat.zero_le _, Nat.zero_le _⟩) hS (fun H locs hV hS => ?_)
  refine lv_if_ne (tgt := 15) hx hb dX9_reasonAgainstString_5 (by decide) (fun b_2 => ?_) (fun b_2 => ?_)
  · have hr := ie b_2 hr
    refine lv_aload_n hx hb dX9_reasonAgainstString_15 rfl (lv_at hl 0 rfl) ?_
    refine g_X9_0 C hV q_339 dX9_reasonAgainstString_16 ?_
    refine lv_iload_n hx hb dX9_reasonAgainstString_19 rfl (lv_at hl 1 rfl) ?_
    obtain ⟨q3, e3, hr⟩ := ob hr
    refine cal_r (run_VN (As := [.int x1]) (rest := []) C hV hS (c_X8_netNumbered l G b0 V 1 z_1 x1 q3 e3) (rcv hK hV (kd_lt z_1 (by decide)) (cel_1 z_1) rfl) q_483 q_485 q_1 q_94 q_486 dk_X8_netNumbered (rm_ok (by decide) (by decide)) hl.1 rfl (Nat.le_of_ble_eq_true rfl) dX9_reasonAgainstString_20 ⟨Nat.zero_le _, Nat.zero_le _⟩) hS (fun H locs hV hS => ?_)
    refine lv_iload_n hx hb dX9_reasonAgainstString_23 rfl (lv_at hl 2 rfl) ?_
    refine lv_iload_n hx hb dX9_reasonAgainstString_24 rfl (lv_at hl 3 rfl) ?_
    obtain ⟨q4, e4, hr⟩ := ob hr
    refine cal_i (run_VN (As := [.int x2, .int x3]) (rest := []) C hV hS (c_X3_isTornBetween l G b0 V q3 (kr_X8_netNumbered z_1 e3) x2 x3 q4 e4) (rcv hK hV (kd_lt (kr_X8_netNumbered z_1 e3) (by decide)) (cel_5 (kr_X8_netNumbered z_1 e3)) rfl) q_710 q_712 q_32 q_95 q_713 dk_X3_isTornBetween (rm_ok (by decide) (by decide)) hl.1 rfl (Nat.le_of_ble_eq_true rfl) dX9_reasonAgainstString_25 ⟨Nat.zero_le _, Nat.zero_le _⟩) hS (fun H locs hV hS => ?_)
    refine lv_iload hx hb dX9_reasonAgainstString_28 (lv_at hl 4 rfl) ?_
    refine lv_icmp_eq (tgt := 44) hx hb dX9_reasonAgainstString_30 (by decide) (fun b_5 => ?_) (fun b_5 => ?_)
    · have hr := it b_5 hr
      refine lv_iconst (v := 0) hx hb dX9_reasonAgainstString_44 (by decide) ?_
      rw [← Option.some.inj hr]
      exact fin_i C hV hS rfl dX9_reasonAgainstString_45
    · have hr := ie b_5 hr
      refine lv_aload_n hx hb dX9_reasonAgainstString_33 rfl (lv_at hl 0 rfl) ?_
      refine lv_iconst (v := 4) hx hb dX9_reasonAgainstString_34 (by decide) ?_
      refine lv_iload_n hx hb dX9_reasonAgainstString_35 rfl (lv_at hl 2 rfl) ?_
      refine lv_iload_n hx hb dX9_reasonAgainstString_36 rfl (lv_at hl 3 rfl) ?_
      refine r_max (D := 2) C q_705 q_706 q_112 q_707 hl.1 ⟨rfl, rfl⟩ (Nat.le_of_ble_eq_true rfl) ⟨Nat.zero_le _, Nat.zero_le _⟩ dX9_reasonAgainstString_37 ?_
      refine W.eq (g2 := F0 m 40 ls [.int (imax x2 x3), .int 4, .ref (b0 + 0)]) rfl ?_
      obtain ⟨q6, e6, hr⟩ := ob hr
      refine cal_i (run_V (As := [.int 4, .int (imax x2 x3)]) (rest := []) C hV hS (c_X9_found l G b0 V 4 (imax x2 x3) q6 e6) (rcv hK hV (kd_lt z_0 (by decide)) (cel_0 z_0) rfl) q_612 q_614 q_19 q_93 q_615 dk_X9_found (rm_ok (by decide) (by decide)) hl.1 rfl (Nat.le_of_ble_eq_true rfl) dX9_reasonAgainstString_40 ⟨Nat.zero_le _, Nat.zero_le _⟩) hS (fun H locs hV hS => ?_)
      rw [← Option.some.inj hr]
      exact fin_i C hV hS rfl dX9_reasonAgainstString_43
  · have hr := it b_2 hr
    refine lv_aload_n hx hb dX9_reasonAgainstString_8 rfl (lv_at hl 0 rfl) ?_
    refine lv_iconst (v := 5) hx hb dX9_reasonAgainstString_9 (by decide) ?_
    refine lv_iload_n hx hb dX9_reasonAgainstString_10 rfl (lv_at hl 3 rfl) ?_
    obtain ⟨q7, e7, hr⟩ := ob hr
    refine cal_i (run_V (As := [.int 5, .int x3]) (rest := []) C hV hS (c_X9_found l G b0 V 5 x3 q7 e7) (rcv hK hV (kd_lt z_0 (by decide)) (cel_0 z_0) rfl) q_612 q_614 q_19 q_93 q_615 dk_X9_found (rm_ok (by decide) (by decide)) hl.1 rfl (Nat.le_of_ble_eq_true rfl) dX9_reasonAgainstString_11 ⟨Nat.zero_le _, Nat.zero_le _⟩) hS (fun H locs hV hS => ?_)
    rw [← Option.some.inj hr]
    exact fin_i C hV hS rfl dX9_reasonAgainstString_14
set_option maxHeartbeats 4000000 in
set_option maxRecDepth 100000 in
theorem c_X9_reasonAgainstTear (l : Launch) (G : LG) (b0 : Nat) (V : St) (x1 : Int32) (x2 : Int32) (x3 : Int32) (res : Int32 × St) (hr : f_X9_reasonAgainstTear V x1 x2 x3 = some res) : Met l yX9_reasonAgainstTear (wy yX9_reasonAgainstTear cX9_reasonAgainstTear 5 (some .int)) (rm 4) (va_Pc [.ref (b0 + 0), .int x1, .int x2, .int x3] (Iv G b0 V)) (QI G b0 res.1 res.2) 0 0 (Ab b0) := by
  refine mk_m (by decide +kernel) (Nat.le_of_ble_eq_true rfl) ?_
  intro p e s m below meth c C hV hS ls hl
  obtain ⟨args, hargs⟩ : ∃ z, z = ([.ref (b0 + 0), .int x1, .int x2, .int x3] : List Value).toArray := ⟨_, rfl⟩
  rw [← hargs] at C ⊢
  obtain ⟨hx, hb, hrt, hml, hown, hts, hlocks, hK, hSv⟩ := id C
  have hl : lv_has ls 5 [(0, .ref (b0 + 0)), (1, .int x1), (2, .int x2), (3, .int x3)] := hl
  unfold f_X9_reasonAgainstTear at hr
  refine lv_aload_n hx hb dX9_reasonAgainstTear_0 rfl (lv_at hl 0 rfl) ?_
  refine lv_iload_n hx hb dX9_reasonAgainstTear_1 rfl (lv_at hl 1 rfl) ?_
  refine lv_iload_n hx hb dX9_reasonAgainstTear_2 rfl (lv_at hl 2 rfl) ?_
  refine lv_iload_n hx hb dX9_reasonAgainstTear_3 rfl (lv_at hl 3 rfl) ?_
  obtain ⟨q1, e1, hr⟩ := ob hr
  refine cal_i (run_V (As := [.int x1, .int x2, .int x3]) (rest := []) C hV hS (c_X9_reasonAgainstEnds l G b0 V x1 x2 x3 q1 e1) (rcv hK hV (kd_lt z_0 (by decide)) (cel_0 z_0) rfl) q_691 q_693 q_30 q_93 q_694 dk_X9_reasonAgainstEnds (rm_ok (by decide) (by decide)) hl.1 rfl (Nat.le_of_ble_eq_true rfl) dX9_reasonAgainstTear_4 ⟨Nat.zero_le _, Nat.zero_le _⟩) hS (fun H locs hV hS => ?_)
  refine lv_istore (lv' := [(4, .int q1.1), (0, .ref (b0 + 0)), (1, .int x1), (2, .int x2), (3, .int x3)]) hx hb dX9_reasonAgainstTear_7 hl (by decide) rfl (fun ls hl => ?_)
  refine lv_iload hx hb dX9_reasonAgainstTear_9 (lv_at hl 0 rfl) ?_
  refine lv_if_ne (tgt := 25) hx hb dX9_reasonAgainstTear_11 (by decide) (fun b_2 => ?_) (fun b_2 => ?_)
  · have hr := ie b_2 hr
    refine lv_iload hx hb dX9_reasonAgainstTear_25 (lv_at hl 0 rfl) ?_
    rw [← Option.some.inj hr]
    exact fin_i C hV hS rfl dX9_reasonAgainstTear_27
  · have hr := it b_2 hr
    refine lv_aload_n hx hb dX9_reasonAgainstTear_14 rfl (lv_at hl 1 rfl) ?_
    refine lv_iload_n hx hb dX9_reasonAgainstTear_15 rfl (lv_at hl 2 rfl) ?_
    refine lv_iload_n hx hb dX9_reasonAgainstTear_16 rfl (lv_at hl 3 rfl) ?_
    refine lv_iload_n hx hb dX9_reasonAgainstTear_17 rfl (lv_at hl 4 rfl) ?_
    refine lv_iconst (v := 0) hx hb dX9_reasonAgainstTear_18 (by decide) ?_
    obtain ⟨q3, e3, hr⟩ := ob hr
    refine cal_i (run_V (As := [.int x1, .int x2, .int x3, .int 0]) (rest := []) C hV hS (c_X9_reasonAgainstString l G b0 q1.2 x1 x2 x3 0 q3 e3) (rcv hK hV (kd_lt z_0 (by decide)) (cel_0 z_0) rfl) q_695 q_697 q_31 q_93 q_698 dk_X9_reasonAgainstString (rm_ok (by decide) (by decide)) hl.1 rfl (Nat.le_of_ble_eq_true rfl) dX9_reasonAgainstTear_19 ⟨Nat.zero_le _, Nat.zero_le _⟩) hS (fun H locs hV hS => ?_)
    refine lv_goto (tgt := 27) hx hb dX9_reasonAgainstTear_22 (by decide) ?_
    rw [← Option.some.inj hr]
    exact fin_i C hV hS rfl dX9_reasonAgainstTear_27
set_option maxHeartbeats 4000000 in
set_option maxRecDepth 100000 in
theorem c_X9_tear (l : Launch) (hfl : l.stackTraces = false) (G : LG) (b0 : Nat) (V : St) (x1 : Int32) (x2 : Int32) (x3 : Int32) (res : (Except Nat Int32) × St) (hr : f_X9_tear V x1 x2 x3 = some res) : vx_Met l yX9_tear (wy yX9_tear cX9_tear 4 (some .int)) (rmx 6) (va_Pc [.ref (b0 + 0), .int x1, .int x2, .int x3] (Iv G b0 V)) (QIx G b0 res.1 res.2) (XX G b0 (xe res.1) res.2) 1 6 (Ab b0) := by
  refine mk_x (by decide +kernel) (Nat.le_of_ble_eq_true rfl) ?_
  intro p e s m below meth c C ht hV hS ls hl
  obtain ⟨args, hargs⟩ : ∃ z, z = ([.ref (b0 + 0), .int x1, .int x2, .int x3] : List Value).toArray := ⟨_, rfl⟩
  rw [← hargs] at C ⊢
  obtain ⟨hx, hb, hrt, hml, hown, hts, hlocks, hK, hSv⟩ := id C
  have hl : lv_has ls 4 [(0, .ref (b0 + 0)), (1, .int x1), (2, .int x2), (3, .int x3)] := hl
  unfold f_X9_tear at hr
  refine lv_aload_n hx hb dX9_tear_0 rfl (lv_at hl 0 rfl) ?_
  refine lv_aload_n hx hb dX9_tear_1 rfl (lv_at hl 0 rfl) ?_
  refine lv_iload_n hx hb dX9_tear_2 rfl (lv_at hl 1 rfl) ?_
  refine lv_iload_n hx hb dX9_tear_3 rfl (lv_at hl 2 rfl) ?_
  refine lv_iload_n hx hb dX9_tear_4 rfl (lv_at hl 3 rfl) ?_
  obtain ⟨q1, e1, hr⟩ := ob hr
  refine cal_i (run_V (As := [.int x1, .int x2, .int x3]) (rest := [.ref (b0 + 0)]) C hV hS (c_X9_reasonAgainstTear l G b0 V x1 x2 x3 q1 e1) (rcv hK hV (kd_lt z_0 (by decide)) (cel_0 z_0) rfl) q_687 q_689 q_29 q_93 q_690 dk_X9_reasonAgainstTear (rmx_ok (by decide) (by decide)) hl.1 rfl (Nat.le_of_ble_eq_true rfl) dX9_tear_5 ⟨Nat.zero_le _, Nat.zero_le _⟩) hS (fun H locs hV hS => ?_)
  obtain ⟨q2, e2, hr⟩ := ob hr
  refine cal_i (run_V (As := [.int q1.1]) (rest := []) C hV hS (c_X9_keepsReason l G b0 q1.2 q1.1 q2 e2) (rcv hK hV (kd_lt z_0 (by decide)) (cel_0 z_0) rfl) q_626 q_628 q_21 q_93 q_629 dk_X9_keepsReason (rmx_ok (by decide) (by decide)) hl.1 rfl (Nat.le_of_ble_eq_true rfl) dX9_tear_8 ⟨Nat.zero_le _, Nat.zero_le _⟩) hS (fun H locs hV hS => ?_)
  refine lv_if_eq (tgt := 24) hx hb dX9_tear_11 (by decide) (fun b_3 => ?_) (fun b_3 => ?_)
  · have hr := it b_3 hr
    refine lv_aload_n hx hb dX9_tear_24 rfl (lv_at hl 0 rfl) ?_
    refine g_X9_4 C hV q_343 dX9_tear_25 ?_
    refine lv_aload_n hx hb dX9_tear_28 rfl (lv_at hl 0 rfl) ?_
    refine g_X9_0 C hV q_339 dX9_tear_29 ?_
    obtain ⟨q4, e4, hr⟩ := ob hr
    refine cal_v (run_VN (As := [.ref (b0 + 1)]) (rest := []) C hV hS (c_X1_push l G b0 q2.2 1 z_1 q4 e4) (rcv hK hV (kd_lt z_52 (by decide)) (cel_8 z_52) rfl) q_650 q_652 q_23 q_98 q_653 dk_X1_push (rmx_ok (by decide) (by decide)) hl.1 rfl (Nat.le_of_ble_eq_true rfl) dX9_tear_32 ⟨Nat.zero_le _, Nat.zero_le _⟩) hS (fun H locs hV hS => ?_)
    refine lv_aload_n hx hb dX9_tear_35 rfl (lv_at hl 0 rfl) ?_
    refine g_X9_0 C hV q_339 dX9_tear_36 ?_
    refine lv_iload_n hx hb dX9_tear_39 rfl (lv_at hl 1 rfl) ?_
    refine lv_iload_n hx hb dX9_tear_40 rfl (lv_at hl 2 rfl) ?_
    refine lv_iload_n hx hb dX9_tear_41 rfl (lv_at hl 3 rfl) ?_
    obtain ⟨q5, e5, hr⟩ := ob hr
    refine cal_v (run_VN (As := [.int x1, .int x2, .int x3]) (rest := []) C hV hS (c_X8_tearString l G b0 q4 1 z_1 x1 x2 x3 q5 e5) (rcv hK hV (kd_lt z_1 (by decide)) (cel_1 z_1) rfl) q_719 q_721 q_33 q_94 q_722 dk_X8_tearString (rmx_ok (by decide) (by decide)) hl.1 rfl (Nat.le_of_ble_eq_true rfl) dX9_tear_42 ⟨Nat.zero_le _, Nat.zero_le _⟩) hS (fun H locs hV hS => ?_)
    refine lv_aload_n hx hb dX9_tear_45 rfl (lv_at hl 0 rfl) ?_
    refine g_X9_0 C hV q_339 dX9_tear_46 ?_
    refine lv_iload_n hx hb dX9_tear_49 rfl (lv_at hl 1 rfl) ?_
    obtain ⟨q6, e6, hr⟩ := ob hr
    refine cal_r (run_VN (As := [.int x1]) (rest := []) C hV hS (c_X8_netNumbered l G b0 q5 1 z_1 x1 q6 e6) (rcv hK hV (kd_lt z_1 (by decide)) (cel_1 z_1) rfl) q_483 q_485 q_1 q_94 q_486 dk_X8_netNumbered (rmx_ok (by decide) (by decide)) hl.1 rfl (Nat.le_of_ble_eq_true rfl) dX9_tear_50 ⟨Nat.zero_le _, Nat.zero_le _⟩) hS (fun H locs hV hS => ?_)
    obtain ⟨q7, e7, hr⟩ := ob hr
    refine cal_i (run_VN (As := []) (rest := []) C hV hS (c_X3_countChapters l G b0 q5 q6 (kr_X8_netNumbered z_1 e6) q7 e7) (rcv hK hV (kd_lt (kr_X8_netNumbered z_1 e6) (by decide)) (cel_5 (kr_X8_netNumbered z_1 e6)) rfl) q_488 q_490 q_2 q_95 q_491 dk_X3_countChapters (rmx_ok (by decide) (by decide)) hl.1 rfl (Nat.le_of_ble_eq_true rfl) dX9_tear_53 ⟨Nat.zero_le _, Nat.zero_le _⟩) hS (fun H locs hV hS => ?_)
    rw [← Option.some.inj hr]
    exact fin_ix C hV hS rfl dX9_tear_56
  · have hr := ie b_3 hr
    rw [← Option.some.inj hr]
    exact th_0 (ik := 76) (is := 104) (ic := 80) C hfl ht hV hS hl.1 q_634 (st_3 hK) q_644 dX9_tear_14 dX9_tear_17 dX9_tear_18 dX9_tear_20 dX9_tear_23 (Nat.le_of_ble_eq_true rfl) (Nat.le_of_ble_eq_true rfl)
set_option maxHeartbeats 4000000 in
set_option maxRecDepth 100000 in
theorem c_X9_reasonAgainstMend (l : Launch) (G : LG) (b0 : Nat) (V : St) (x1 : Int32) (x2 : Int32) (x3 : Int32) (x4 : Int32) (res : Int32 × St) (hr : f_X9_reasonAgainstMend V x1 x2 x3 x4 = some res) : Met l yX9_reasonAgainstMend (wy yX9_reasonAgainstMend cX9_reasonAgainstMend 7 (some .int)) (rm 4) (va_Pc [.ref (b0 + 0), .int x1, .int x2, .int x3, .int x4] (Iv G b0 V)) (QI G b0 res.1 res.2) 0 0 (Ab b0) := by
  refine mk_m (by decide +kernel) (Nat.le_of_ble_eq_true rfl) ?_
  intro p e s m below meth c C hV hS ls hl
  obtain ⟨args, hargs⟩ : ∃ z, z = ([.ref (b0 + 0), .int x1, .int x2, .int x3, .int x4] : List Value).toArray := ⟨_, rfl⟩
  rw [← hargs] at C ⊢
  obtain ⟨hx, hb, hrt, hml, hown, hts, hlocks, hK, hSv⟩ := id C
  have hl : lv_has ls 7 [(0, .ref (b0 + 0)), (1, .int x1), (2, .int x2), (3, .int x3), (4, .int x4)] := hl
  unfold f_X9_reasonAgainstMend at hr
  refine lv_aload_n hx hb dX9_reasonAgainstMend_0 rfl (lv_at hl 0 rfl) ?_
  refine lv_iload_n hx hb dX9_reasonAgainstMend_1 rfl (lv_at hl 1 rfl) ?_
  refine lv_iload_n hx hb dX9_reasonAgainstMend_2 rfl (lv_at hl 2 rfl) ?_
  refine lv_iload_n hx hb dX9_reasonAgainstMend_3 rfl (lv_at hl 3 rfl) ?_
  obtain ⟨q1, e1, hr⟩ := ob hr
  refine cal_i (run_V (As := [.int x1, .int x2, .int x3]) (rest := []) C hV hS (c_X9_reasonAgainstEnds l G b0 V x1 x2 x3 q1 e1) (rcv hK hV (kd_lt z_0 (by decide)) (cel_0 z_0) rfl) q_691 q_693 q_30 q_93 q_694 dk_X9_reasonAgainstEnds (rm_ok (by decide) (by decide)) hl.1 rfl (Nat.le_of_ble_eq_true rfl) dX9_reasonAgainstMend_4 ⟨Nat.zero_le _, Nat.zero_le _⟩) hS (fun H locs hV hS => ?_)
  refine lv_istore (lv' := [(5, .int q1.1), (0, .ref (b0 + 0)), (1, .int x1), (2, .int x2), (3, .int x3), (4, .int x4)]) hx hb dX9_reasonAgainstMend_7 hl (by decide) rfl (fun ls hl => ?_)
  refine lv_iload hx hb dX9_reasonAgainstMend_9 (lv_at hl 0 rfl) ?_
  refine lv_if_eq (tgt := 17) hx hb dX9_reasonAgainstMend_11 (by decide) (fun b_2 => ?_) (fun b_2 => ?_)
  · have hr := it b_2 hr
    refine lv_aload_n hx hb dX9_reasonAgainstMend_17 rfl (lv_at hl 1 rfl) ?_
    refine g_X9_0 C hV q_339 dX9_reasonAgainstMend_18 ?_
    refine lv_iload hx hb dX9_reasonAgainstMend_21 (lv_at hl 5 rfl) ?_
    obtain ⟨q3, e3, hr⟩ := ob hr
    refine cal_i (run_VN (As := [.int x4]) (rest := []) C hV hS (c_X8_hasEditor l G b0 q1.2 1 z_1 x4 q3 e3) (rcv hK hV (kd_lt z_1 (by decide)) (cel_1 z_1) rfl) q_738 q_740 q_36 q_94 q_741 dk_X8_hasEditor (rm_ok (by decide) (by decide)) hl.1 rfl (Nat.le_of_ble_eq_true rfl) dX9_reasonAgainstMend_23 ⟨Nat.zero_le _, Nat.zero_le _⟩) hS (fun H locs hV hS => ?_)
    refine lv_if_ne (tgt := 37) hx hb dX9_reasonAgainstMend_26 (by decide) (fun b_4 => ?_) (fun b_4 => ?_)
    · have hr := ie b_4 hr
      refine lv_aload_n hx hb dX9_reasonAgainstMend_37 rfl (lv_at hl 1 rfl) ?_
      refine lv_iload_n hx hb dX9_reasonAgainstMend_38 rfl (lv_at hl 2 rfl) ?_
      refine lv_iload_n hx hb dX9_reasonAgainstMend_39 rfl (lv_at hl 3 rfl) ?_
      refine lv_iload_n hx hb dX9_reasonAgainstMend_40 rfl (lv_at hl 4 rfl) ?_
      refine lv_iconst (v := 1) hx hb dX9_reasonAgainstMend_41 (by decide) ?_
      obtain ⟨q5, e5, hr⟩ := ob hr
      refine cal_i (run_V (As := [.int x1, .int x2, .int x3, .int 1]) (rest := []) C hV hS (c_X9_reasonAgainstString l G b0 q1.2 x1 x2 x3 1 q5 e5) (rcv hK hV (kd_lt z_0 (by decide)) (cel_0 z_0) rfl) q_695 q_697 q_31 q_93 q_698 dk_X9_reasonAgainstString (rm_ok (by decide) (by decide)) hl.1 rfl (Nat.le_of_ble_eq_true rfl) dX9_reasonAgainstMend_42 ⟨Nat.zero_le _, Nat.zero_le _⟩) hS (fun H locs hV hS => ?_)
      refine lv_istore (lv' := [(5, .int q5.1), (0, .ref (b0 + 0)), (1, .int x1), (2, .int x2), (3, .int x3), (4, .int x4)]) hx hb dX9_reasonAgainstMend_45 hl (by decide) rfl (fun ls hl => ?_)
      refine lv_iload hx hb dX9_reasonAgainstMend_47 (lv_at hl 0 rfl) ?_
      refine lv_if_eq (tgt := 55) hx hb dX9_reasonAgainstMend_49 (by decide) (fun b_6 => ?_) (fun b_6 => ?_)
      · have hr := it b_6 hr
        refine lv_aload_n hx hb dX9_reasonAgainstMend_55 rfl (lv_at hl 1 rfl) ?_
        refine g_X9_0 C hV q_339 dX9_reasonAgainstMend_56 ?_
        refine lv_iload hx hb dX9_reasonAgainstMend_59 (lv_at hl 5 rfl) ?_
        obtain ⟨q7, e7, hr⟩ := ob hr
        refine cal_r (run_VN (As := [.int x4]) (rest := []) C hV hS (c_X8_editorNumbered l G b0 q5.2 1 z_1 x4 q7 e7) (rcv hK hV (kd_lt z_1 (by decide)) (cel_1 z_1) rfl) q_742 q_557 q_12 q_94 q_558 dk_X8_editorNumbered (rm_ok (by decide) (by decide)) hl.1 rfl (Nat.le_of_ble_eq_true rfl) dX9_reasonAgainstMend_61 ⟨Nat.zero_le _, Nat.zero_le _⟩) hS (fun H locs hV hS => ?_)
        refine gn_X0_0 (k := q7) C hV (kr_X8_editorNumbered z_1 e7) q_180 dX9_reasonAgainstMend_64 ?_
        refine lv_istore (lv' := [(6, .int (q5.2 q7 0)), (5, .int q5.1), (0, .ref (b0 + 0)), (1, .int x1), (2, .int x2), (3, .int x3), (4, .int x4)]) hx hb dX9_reasonAgainstMend_67 hl (by decide) rfl (fun ls hl => ?_)
        refine lv_iload hx hb dX9_reasonAgainstMend_69 (lv_at hl 0 rfl) ?_
        refine lv_iload_n hx hb dX9_reasonAgainstMend_71 rfl (lv_at hl 4 rfl) ?_
        refine lv_iload_n hx hb dX9_reasonAgainstMend_72 rfl (lv_at hl 5 rfl) ?_
        obtain ⟨q8, e8, hr⟩ := ob hr
        refine cal_i (run_S (As := [.int x2, .int x3]) (rest := [.int (q5.2 q7 0)]) C hV hS (c_X9_twineFor l G b0 q5.2 x2 x3 q8 e8) q_743 q_744 q_93 q_745 dk_X9_twineFor (rm_ok (by decide) (by decide)) hl.1 rfl (Nat.le_of_ble_eq_true rfl) dX9_reasonAgainstMend_73 ⟨Nat.zero_le _, Nat.zero_le _⟩) hS (fun H locs hV hS => ?_)
        refine lv_icmp_ge (tgt := 90) hx hb dX9_reasonAgainstMend_76 (by decide) (fun b_9 => ?_) (fun b_9 => ?_)
        · have hr := it b_9 hr
          refine lv_iconst (v := 0) hx hb dX9_reasonAgainstMend_90 (by decide) ?_
          rw [← Option.some.inj hr]
          exact fin_i C hV hS rfl dX9_reasonAgainstMend_91
        · have hr := ie b_9 hr
          refine lv_aload_n hx hb dX9_reasonAgainstMend_79 rfl (lv_at hl 2 rfl) ?_
          refine lv_bipush (v := 6) hx hb dX9_reasonAgainstMend_80 (by decide) ?_
          refine lv_iload hx hb dX9_reasonAgainstMend_82 (lv_at hl 0 rfl) ?_
          obtain ⟨q10, e10, hr⟩ := ob hr
          refine cal_i (run_V (As := [.int 6, .int (q5.2 q7 0)]) (rest := []) C hV hS (c_X9_found l G b0 q5.2 6 (q5.2 q7 0) q10 e10) (rcv hK hV (kd_lt z_0 (by decide)) (cel_0 z_0) rfl) q_612 q_614 q_19 q_93 q_615 dk_X9_found (rm_ok (by decide) (by decide)) hl.1 rfl (Nat.le_of_ble_eq_true rfl) dX9_reasonAgainstMend_84 ⟨Nat.zero_le _, Nat.zero_le _⟩) hS (fun H locs hV hS => ?_)
          refine lv_goto (tgt := 91) hx hb dX9_reasonAgainstMend_87 (by decide) ?_
          rw [← Option.some.inj hr]
          exact fin_i C hV hS rfl dX9_reasonAgainstMend_91
      · have hr := ie b_6 hr
        refine lv_iload hx hb dX9_reasonAgainstMend_52 (lv_at hl 0 rfl) ?_
        rw [← Option.some.inj hr]
        exact fin_i C hV hS rfl dX9_reasonAgainstMend_54
    · have hr := it b_4 hr
      refine lv_aload_n hx hb dX9_reasonAgainstMend_29 rfl (lv_at hl 1 rfl) ?_
      refine lv_iconst (v := 2) hx hb dX9_reasonAgainstMend_30 (by decide) ?_
      refine lv_iload hx hb dX9_reasonAgainstMend_31 (lv_at hl 5 rfl) ?_
      obtain ⟨q11, e11, hr⟩ := ob hr
      refine cal_i (run_V (As := [.int 2, .int x4]) (rest := []) C hV hS (c_X9_found l G b0 q1.2 2 x4 q11 e11) (rcv hK hV (kd_lt z_0 (by decide)) (cel_0 z_0) rfl) q_612 q_614 q_19 q_93 q_615 dk_X9_found (rm_ok (by decide) (by decide)) hl.1 rfl (Nat.le_of_ble_eq_true rfl) dX9_reasonAgainstMend_33 ⟨Nat.zero_le _, Nat.zero_le _⟩) hS (fun H locs hV hS => ?_)
      rw [← Option.some.inj hr]
      exact fin_i C hV hS rfl dX9_reasonAgainstMend_36
  · have hr := ie b_2 hr
    refine lv_iload hx hb dX9_reasonAgainstMend_14 (lv_at hl 0 rfl) ?_
    rw [← Option.some.inj hr]
    exact fin_i C hV hS rfl dX9_reasonAgainstMend_16
set_option maxHeartbeats 4000000 in
set_option maxRecDepth 100000 in
theorem c_X9_mend (l : Launch) (hfl : l.stackTraces = false) (G : LG) (b0 : Nat) (V : St) (x1 : Int32) (x2 : Int32) (x3 : Int32) (x4 : Int32) (res : (Except Nat Int32) × St) (hr : f_X9_mend V x1 x2 x3 x4 = some res) : vx_Met l yX9_mend (wy yX9_mend cX9_mend 5 (some .int)) (rmx 6) (va_Pc [.ref (b0 + 0), .int x1, .int x2, .int x3, .int x4] (Iv G b0 V)) (QIx G b0 res.1 res.2) (XX G b0 (xe res.1) res.2) 1 6 (Ab b0) := by
  refine mk_x (by decide +kernel) (Nat.le_of_ble_eq_true rfl) ?_
  intro p e s m below meth c C ht hV hS ls hl
  obtain ⟨args, hargs⟩ : ∃ z, z = ([.ref (b0 + 0), .int x1, .int x2, .int x3, .int x4] : List Value).toArray := ⟨_, rfl⟩
  rw [← hargs] at C ⊢
  obtain ⟨hx, hb, hrt, hml, hown, hts, hlocks, hK, hSv⟩ := id C
  have hl : lv_has ls 5 [(0, .ref (b0 + 0)), (1, .int x1), (2, .int x2), (3, .int x3), (4, .int x4)] := hl
  unfold f_X9_mend at hr
  refine lv_aload_n hx hb dX9_mend_0 rfl (lv_at hl 0 rfl) ?_
  refine lv_aload_n hx hb dX9_mend_1 rfl (lv_at hl 0 rfl) ?_
  refine lv_iload_n hx hb dX9_mend_2 rfl (lv_at hl 1 rfl) ?_
  refine lv_iload_n hx hb dX9_mend_3 rfl (lv_at hl 2 rfl) ?_
  refine lv_iload_n hx hb dX9_mend_4 rfl (lv_at hl 3 rfl) ?_
  refine lv_iload hx hb dX9_mend_5 (lv_at hl 4 rfl) ?_
  obtain ⟨q1, e1, hr⟩ := ob hr
  refine cal_i (run_V (As := [.int x1, .int x2, .int x3, .int x4]) (rest := [.ref (b0 + 0)]) C hV hS (c_X9_reasonAgainstMend l G b0 V x1 x2 x3 x4 q1 e1) (rcv hK hV (kd_lt z_0 (by decide)) (cel_0 z_0) rfl) q_734 q_736 q_35 q_93 q_737 dk_X9_reasonAgainstMend (rmx_ok (by decide) (by decide)) hl.1 rfl (Nat.le_of_ble_eq_true rfl) dX9_mend_7 ⟨Nat.zero_le _, Nat.zero_le _⟩) hS (fun H locs hV hS => ?_)
  obtain ⟨q2, e2, hr⟩ := ob hr
  refine cal_i (run_V (As := [.int q1.1]) (rest := []) C hV hS (c_X9_keepsReason l G b0 q1.2 q1.1 q2 e2) (rcv hK hV (kd_lt z_0 (by decide)) (cel_0 z_0) rfl) q_626 q_628 q_21 q_93 q_629 dk_X9_keepsReason (rmx_ok (by decide) (by decide)) hl.1 rfl (Nat.le_of_ble_eq_true rfl) dX9_mend_10 ⟨Nat.zero_le _, Nat.zero_le _⟩) hS (fun H locs hV hS => ?_)
  refine lv_if_eq (tgt := 26) hx hb dX9_mend_13 (by decide) (fun b_3 => ?_) (fun b_3 => ?_)
  · have hr := it b_3 hr
    refine lv_aload_n hx hb dX9_mend_26 rfl (lv_at hl 0 rfl) ?_
    refine g_X9_4 C hV q_343 dX9_mend_27 ?_
    refine lv_aload_n hx hb dX9_mend_30 rfl (lv_at hl 0 rfl) ?_
    refine g_X9_0 C hV q_339 dX9_mend_31 ?_
    obtain ⟨q4, e4, hr⟩ := ob hr
    refine cal_v (run_VN (As := [.ref (b0 + 1)]) (rest := []) C hV hS (c_X1_push l G b0 q2.2 1 z_1 q4 e4) (rcv hK hV (kd_lt z_52 (by decide)) (cel_8 z_52) rfl) q_650 q_652 q_23 q_98 q_653 dk_X1_push (rmx_ok (by decide) (by decide)) hl.1 rfl (Nat.le_of_ble_eq_true rfl) dX9_mend_34 ⟨Nat.zero_le _, Nat.zero_le _⟩) hS (fun H locs hV hS => ?_)
    refine lv_aload_n hx hb dX9_mend_37 rfl (lv_at hl 0 rfl) ?_
    refine g_X9_0 C hV q_339 dX9_mend_38 ?_
    refine lv_iload_n hx hb dX9_mend_41 rfl (lv_at hl 1 rfl) ?_
    refine lv_iload_n hx hb dX9_mend_42 rfl (lv_at hl 2 rfl) ?_
    refine lv_iload_n hx hb dX9_mend_43 rfl (lv_at hl 3 rfl) ?_
    refine lv_iload hx hb dX9_mend_44 (lv_at hl 4 rfl) ?_
    obtain ⟨q5, e5, hr⟩ := ob hr
    refine cal_v (run_VN (As := [.int x1, .int x2, .int x3, .int x4]) (rest := []) C hV hS (c_X8_mendString l G b0 q4 1 z_1 x1 x2 x3 x4 q5 e5) (rcv hK hV (kd_lt z_1 (by decide)) (cel_1 z_1) rfl) q_748 q_750 q_37 q_94 q_751 dk_X8_mendString (rmx_ok (by decide) (by decide)) hl.1 rfl (Nat.le_of_ble_eq_true rfl) dX9_mend_46 ⟨Nat.zero_le _, Nat.zero_le _⟩) hS (fun H locs hV hS => ?_)
    refine lv_aload_n hx hb dX9_mend_49 rfl (lv_at hl 0 rfl) ?_
    refine g_X9_0 C hV q_339 dX9_mend_50 ?_
    refine lv_iload hx hb dX9_mend_53 (lv_at hl 4 rfl) ?_
    obtain ⟨q6, e6, hr⟩ := ob hr
    refine cal_r (run_VN (As := [.int x4]) (rest := []) C hV hS (c_X8_editorNumbered l G b0 q5 1 z_1 x4 q6 e6) (rcv hK hV (kd_lt z_1 (by decide)) (cel_1 z_1) rfl) q_742 q_557 q_12 q_94 q_558 dk_X8_editorNumbered (rmx_ok (by decide) (by decide)) hl.1 rfl (Nat.le_of_ble_eq_true rfl) dX9_mend_55 ⟨Nat.zero_le _, Nat.zero_le _⟩) hS (fun H locs hV hS => ?_)
    refine gn_X0_0 (k := q6) C hV (kr_X8_editorNumbered z_1 e6) q_180 dX9_mend_58 ?_
    rw [← Option.some.inj hr]
    exact fin_ix C hV hS rfl dX9_mend_61
  · have hr := ie b_3 hr
    rw [← Option.some.inj hr]
    exact th_0 (ik := 76) (is := 118) (ic := 80) C hfl ht hV hS hl.1 q_634 (st_4 hK) q_644 dX9_mend_16 dX9_mend_19 dX9_mend_20 dX9_mend_22 dX9_mend_25 (Nat.le_of_ble_eq_true rfl) (Nat.le_of_ble_eq_true rfl)
