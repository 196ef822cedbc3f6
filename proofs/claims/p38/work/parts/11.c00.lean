set_option maxHeartbeats 4000000 in
set_option maxRecDepth 100000 in
theorem c_X0_copyFrom (l : Launch) (G : LG) (b0 : Nat) (V : St) (k0 : Nat) (hk0 : kd k0 = 6) (k1 : Nat) (hk1 : kd k1 = 6) (res : St) (hr : f_X0_copyFrom V k0 k1 = some res) : Met l yX0_copyFrom (wy yX0_copyFrom cX0_copyFrom 2 none) (rm 0) (va_Pc [.ref (b0 + k0), .ref (b0 + k1)] (Iv G b0 V)) (QV G b0 res) 0 0 (Ab b0) := by
  refine mk_m (by decide +kernel) (Nat.le_of_ble_eq_true rfl) ?_
  intro p e s m below meth c C hV hS ls hl
  obtain ⟨args, hargs⟩ : ∃ z, z = ([.ref (b0 + k0), .ref (b0 + k1)] : List Value).toArray := ⟨_, rfl⟩
  rw [← hargs] at C ⊢
  obtain ⟨hx, hb, hrt, hml, hown, hts, hlocks, hK, hSv⟩ := id C
  have hl : lv_has ls 2 [(0, .ref (b0 + k0)), (1, .ref (b0 + k1))] := hl
  unfold f_X0_copyFrom at hr
  refine lv_aload_n hx hb dX0_copyFrom_0 rfl (lv_at hl 0 rfl) ?_
  refine lv_aload_n hx hb dX0_copyFrom_1 rfl (lv_at hl 1 rfl) ?_
  refine g_X0_0 (k := k1) C hV hk1 q_179 dX0_copyFrom_2 ?_
  refine p_X0_0 (k := k0) (x := (V k1 0)) C hV hS hk0 q_179 dX0_copyFrom_5 (fun H locs hV hS => ?_)
  refine lv_aload_n hx hb dX0_copyFrom_8 rfl (lv_at hl 0 rfl) ?_
  refine lv_aload_n hx hb dX0_copyFrom_9 rfl (lv_at hl 1 rfl) ?_
  refine g_X0_1 (k := k1) C hV hk1 q_182 dX0_copyFrom_10 ?_
  refine p_X0_1 (k := k0) (x := ((up V k0 0 (V k1 0)) k1 1)) C hV hS hk0 q_182 dX0_copyFrom_13 (fun H locs hV hS => ?_)
  exact fin_v C hV hS (Option.some.inj hr) dX0_copyFrom_16
set_option maxHeartbeats 4000000 in
set_option maxRecDepth 100000 in
theorem c_J9_floorMod_7cf53 (l : Launch) (G : LG) (b0 : Nat) (V : St) (x0 : Int32) (x1 : Int32) (res : Int32) (hr : f_J9_floorMod_7cf53 x0 x1 = some res) : Met l yJ9_floorMod_7cf53 (wy yJ9_floorMod_7cf53 cJ9_floorMod_7cf53 3 (some .int)) (rm 0) (va_Pc [.int x0, .int x1] (Iv G b0 V)) (QI G b0 res V) 0 0 (Ab b0) := by
  refine mk_m (by decide +kernel) (Nat.le_of_ble_eq_true rfl) ?_
  intro p e s m below meth c C hV hS ls hl
  obtain ⟨args, hargs⟩ : ∃ z, z = ([.int x0, .int x1] : List Value).toArray := ⟨_, rfl⟩
  rw [← hargs] at C ⊢
  obtain ⟨hx, hb, hrt, hml, hown, hts, hlocks, hK, hSv⟩ := id C
  have hl : lv_has ls 3 [(0, .int x0), (1, .int x1)] := hl
  unfold f_J9_floorMod_7cf53 at hr
  refine lv_iload_n hx hb dJ9_floorMod_7cf53_0 rfl (lv_at hl 0 rfl) ?_
  refine lv_iload_n hx hb dJ9_floorMod_7cf53_1 rfl (lv_at hl 1 rfl) ?_
  by_cases b_1 : x1 = 0
  · have hr := it b_1 hr
    cases hr
  have hr := ie b_1 hr
  refine lv_irem hx hb dJ9_floorMod_7cf53_2 b_1 ?_
  refine lv_istore_n (lv' := [(2, .int (x0 - x0 / x1 * x1)), (0, .int x0), (1, .int x1)]) hx hb dJ9_floorMod_7cf53_3 rfl hl (by decide) rfl (fun ls hl => ?_)
  refine lv_iload_n hx hb dJ9_floorMod_7cf53_4 rfl (lv_at hl 1 rfl) ?_
  refine lv_iload_n hx hb dJ9_floorMod_7cf53_5 rfl (lv_at hl 2 rfl) ?_
  refine lv_ixor hx hb dJ9_floorMod_7cf53_6 ?_
  refine lv_if_ge (tgt := 18) hx hb dJ9_floorMod_7cf53_7 (by decide) (fun b_2 => ?_) (fun b_2 => ?_)
  · have hr := it b_2 hr
    refine lv_iload_n hx hb dJ9_floorMod_7cf53_18 rfl (lv_at hl 0 rfl) ?_
    exact fin_i C hV hS (Option.some.inj hr) dJ9_floorMod_7cf53_19
  · have hr := ie b_2 hr
    refine lv_iload_n hx hb dJ9_floorMod_7cf53_10 rfl (lv_at hl 0 rfl) ?_
    refine lv_if_eq (tgt := 18) hx hb dJ9_floorMod_7cf53_11 (by decide) (fun b_3 => ?_) (fun b_3 => ?_)
    · have hr := it b_3 hr
      refine lv_iload_n hx hb dJ9_floorMod_7cf53_18 rfl (lv_at hl 0 rfl) ?_
      exact fin_i C hV hS (Option.some.inj hr) dJ9_floorMod_7cf53_19
    · have hr := ie b_3 hr
      refine lv_iload_n hx hb dJ9_floorMod_7cf53_14 rfl (lv_at hl 0 rfl) ?_
      refine lv_iload_n hx hb dJ9_floorMod_7cf53_15 rfl (lv_at hl 2 rfl) ?_
      refine lv_iadd hx hb dJ9_floorMod_7cf53_16 ?_
      exact fin_i C hV hS (Option.some.inj hr) dJ9_floorMod_7cf53_17
set_option maxHeartbeats 4000000 in
set_option maxRecDepth 100000 in
theorem c_X3_copyFrom (l : Launch) (G : LG) (b0 : Nat) (V : St) (k0 : Nat) (hk0 : kd k0 = 5) (k1 : Nat) (hk1 : kd k1 = 5) (res : St) (hr : f_X3_copyFrom V k0 k1 = some res) : Met l yX3_copyFrom (wy yX3_copyFrom cX3_copyFrom 2 none) (rm 0) (va_Pc [.ref (b0 + k0), .ref (b0 + k1)] (Iv G b0 V)) (QV G b0 res) 0 0 (Ab b0) := by
  refine mk_m (by decide +kernel) (Nat.le_of_ble_eq_true rfl) ?_
  intro p e s m below meth c C hV hS ls hl
  obtain ⟨args, hargs⟩ : ∃ z, z = ([.ref (b0 + k0), .ref (b0 + k1)] : List Value).toArray := ⟨_, rfl⟩
  rw [← hargs] at C ⊢
  obtain ⟨hx, hb, hrt, hml, hown, hts, hlocks, hK, hSv⟩ := id C
  have hl : lv_has ls 2 [(0, .ref (b0 + k0)), (1, .ref (b0 + k1))] := hl
  unfold f_X3_copyFrom at hr
  refine lv_aload_n hx hb dX3_copyFrom_0 rfl (lv_at hl 0 rfl) ?_
  refine lv_aload_n hx hb dX3_copyFrom_1 rfl (lv_at hl 1 rfl) ?_
  refine g_X3_0 (k := k1) C hV hk1 q_150 dX3_copyFrom_2 ?_
  refine p_X3_0 (k := k0) (x := (V k1 0)) C hV hS hk0 q_150 dX3_copyFrom_5 (fun H locs hV hS => ?_)
  refine lv_aload_n hx hb dX3_copyFrom_8 rfl (lv_at hl 0 rfl) ?_
  refine lv_aload_n hx hb dX3_copyFrom_9 rfl (lv_at hl 1 rfl) ?_
  refine g_X3_1 (k := k1) C hV hk1 q_154 dX3_copyFrom_10 ?_
  refine p_X3_1 (k := k0) (x := ((up V k0 0 (V k1 0)) k1 1)) C hV hS hk0 q_154 dX3_copyFrom_13 (fun H locs hV hS => ?_)
  refine lv_aload_n hx hb dX3_copyFrom_16 rfl (lv_at hl 0 rfl) ?_
  refine lv_aload_n hx hb dX3_copyFrom_17 rfl (lv_at hl 1 rfl) ?_
  refine g_X3_2 (k := k1) C hV hk1 q_158 dX3_copyFrom_18 ?_
  refine p_X3_2 (k := k0) (x := ((up (up V k0 0 (V k1 0)) k0 1 ((up V k0 0 (V k1 0)) k1 1)) k1 2)) C hV hS hk0 q_158 dX3_copyFrom_21 (fun H locs hV hS => ?_)
  refine lv_aload_n hx hb dX3_copyFrom_24 rfl (lv_at hl 0 rfl) ?_
  refine lv_aload_n hx hb dX3_copyFrom_25 rfl (lv_at hl 1 rfl) ?_
  refine g_X3_3 (k := k1) C hV hk1 q_159 dX3_copyFrom_26 ?_
  refine p_X3_3 (k := k0) (x := ((up (up (up V k0 0 (V k1 0)) k0 1 ((up V k0 0 (V k1 0)) k1 1)) k0 2 ((up (up V k0 0 (V k1 0)) k0 1 ((up V k0 0 (V k1 0)) k1 1)) k1 2)) k1 3)) C hV hS hk0 q_159 dX3_copyFrom_29 (fun H locs hV hS => ?_)
  refine lv_aload_n hx hb dX3_copyFrom_32 rfl (lv_at hl 0 rfl) ?_
  refine lv_aload_n hx hb dX3_copyFrom_33 rfl (lv_at hl 1 rfl) ?_
  refine g_X3_4 (k := k1) C hV hk1 q_160 dX3_copyFrom_34 ?_
  refine p_X3_4 (k := k0) (x := ((up (up (up (up V k0 0 (V k1 0)) k0 1 ((up V k0 0 (V k1 0)) k1 1)) k0 2 ((up (up V k0 0 (V k1 0)) k0 1 ((up V k0 0 (V k1 0)) k1 1)) k1 2)) k0 3 ((up (up (up V k0 0 (V k1 0)) k0 1 ((up V k0 0 (V k1 0)) k1 1)) k0 2 ((up (up V k0 0 (V k1 0)) k0 1 ((up V k0 0 (V k1 0)) k1 1)) k1 2)) k1 3)) k1 4)) C hV hS hk0 q_160 dX3_copyFrom_37 (fun H locs hV hS => ?_)
  exact fin_v C hV hS (Option.some.inj hr) dX3_copyFrom_40
set_option maxHeartbeats 4000000 in
set_option maxRecDepth 100000 in
theorem c_X4_copyFrom (l : Launch) (G : LG) (b0 : Nat) (V : St) (k0 : Nat) (hk0 : kd k0 = 7) (k1 : Nat) (hk1 : kd k1 = 7) (res : St) (hr : f_X4_copyFrom V k0 k1 = some res) : Met l yX4_copyFrom (wy yX4_copyFrom cX4_copyFrom 2 none) (rm 0) (va_Pc [.ref (b0 + k0), .ref (b0 + k1)] (Iv G b0 V)) (QV G b0 res) 0 0 (Ab b0) := by
  refine mk_m (by decide +kernel) (Nat.le_of_ble_eq_true rfl) ?_
  intro p e s m below meth c C hV hS ls hl
  obtain ⟨args, hargs⟩ : ∃ z, z = ([.ref (b0 + k0), .ref (b0 + k1)] : List Value).toArray := ⟨_, rfl⟩
  rw [← hargs] at C ⊢
  obtain ⟨hx, hb, hrt, hml, hown, hts, hlocks, hK, hSv⟩ := id C
  have hl : lv_has ls 2 [(0, .ref (b0 + k0)), (1, .ref (b0 + k1))] := hl
  unfold f_X4_copyFrom at hr
  refine lv_aload_n hx hb dX4_copyFrom_0 rfl (lv_at hl 0 rfl) ?_
  refine lv_aload_n hx hb dX4_copyFrom_1 rfl (lv_at hl 1 rfl) ?_
  refine g_X4_0 (k := k1) C hV hk1 q_195 dX4_copyFrom_2 ?_
  refine p_X4_0 (k := k0) (x := (V k1 0)) C hV hS hk0 q_195 dX4_copyFrom_5 (fun H locs hV hS => ?_)
  refine lv_aload_n hx hb dX4_copyFrom_8 rfl (lv_at hl 0 rfl) ?_
  refine lv_aload_n hx hb dX4_copyFrom_9 rfl (lv_at hl 1 rfl) ?_
  refine g_X4_1 (k := k1) C hV hk1 q_198 dX4_copyFrom_10 ?_
  refine p_X4_1 (k := k0) (x := ((up V k0 0 (V k1 0)) k1 1)) C hV hS hk0 q_198 dX4_copyFrom_13 (fun H locs hV hS => ?_)
  refine lv_aload_n hx hb dX4_copyFrom_16 rfl (lv_at hl 0 rfl) ?_
  refine lv_aload_n hx hb dX4_copyFrom_17 rfl (lv_at hl 1 rfl) ?_
  refine g_X4_2 (k := k1) C hV hk1 q_201 dX4_copyFrom_18 ?_
  refine p_X4_2 (k := k0) (x := ((up (up V k0 0 (V k1 0)) k0 1 ((up V k0 0 (V k1 0)) k1 1)) k1 2)) C hV hS hk0 q_201 dX4_copyFrom_21 (fun H locs hV hS => ?_)
  exact fin_v C hV hS (Option.some.inj hr) dX4_copyFrom_24
set_option maxHeartbeats 4000000 in
set_option maxRecDepth 100000 in
theorem c_X8_copyFrom (l : Launch) (G : LG) (b0 : Nat) (V : St) (k0 : Nat) (hk0 : kd k0 = 1) (k1 : Nat) (hk1 : kd k1 = 1) (res : St) (hr : f_X8_copyFrom V k0 k1 = some res) : Met l yX8_copyFrom (wy yX8_copyFrom cX8_copyFrom 3 none) (rm 1) (va_Pc [.ref (b0 + k0), .ref (b0 + k1)] (Iv G b0 V)) (QV G b0 res) 0 0 (Ab b0) := by
  refine mk_m (by decide +kernel) (Nat.le_of_ble_eq_true rfl) ?_
  intro p e s m below meth c C hV hS ls hl
  obtain ⟨args, hargs⟩ : ∃ z, z = ([.ref (b0 + k0), .ref (b0 + k1)] : List Value).toArray := ⟨_, rfl⟩
  rw [← hargs] at C ⊢
  obtain ⟨hx, hb, hrt, hml, hown, hts, hlocks, hK, hSv⟩ := id C
  have hl : lv_has ls 3 [(0, .ref (b0 + k0)), (1, .ref (b0 + k1))] := hl
  have K_58 : ∀ (n : Nat) (V : St) (k0 : Nat) (hk0 : kd k0 = 1) (k1 : Nat) (hk1 : kd k1 = 1) (x2 : Int32), f_X8_copyFrom_b58 n V k0 k1 x2 = some res → ∀ (H : Heap) (locs : List Loc) (ls : Array Slot), Hd G b0 V H → va_S (Ab b0) s.heap H locs → lv_has ls 3 [(0, .ref (b0 + k0)), (1, .ref (b0 + k1)), (2, .int x2)] → W p l e (rm 1) s m args below meth c H locs 0 0 (MQ below (QV G b0 res) args s 0 0 (Ab b0)) (F0 m 58 ls []) := by
    intro  n
    induction n with
    | zero =>
      intro V k0 hk0 k1 hk1 x2 hr
      rw [f_X8_copyFrom_b58] at hr
      cases hr
    | succ n ih =>
      intro V k0 hk0 k1 hk1 x2 hr H locs ls hV hS hl
      rw [f_X8_copyFrom_b58] at hr
      refine lv_iload_n hx hb dX8_copyFrom_58 rfl (lv_at hl 2 rfl) ?_
      refine lv_bipush (v := 6) hx hb dX8_copyFrom_59 (by decide) ?_
      refine lv_icmp_ge (tgt := 85) hx hb dX8_copyFrom_61 (by decide) (fun b_1 => ?_) (fun b_1 => ?_)
      · have hr := it b_1 hr
        refine lv_aload_n hx hb dX8_copyFrom_85 rfl (lv_at hl 0 rfl) ?_
        refine lv_aload_n hx hb dX8_copyFrom_86 rfl (lv_at hl 1 rfl) ?_
        refine g_X8_3 (k := k1) C hV hk1 q_214 dX8_copyFrom_87 ?_
        refine p_X8_3 (k := k0) (x := (V k1 3)) C hV hS hk0 q_214 dX8_copyFrom_90 (fun H locs hV hS => ?_)
        refine lv_aload_n hx hb dX8_copyFrom_93 rfl (lv_at hl 0 rfl) ?_
        refine lv_aload_n hx hb dX8_copyFrom_94 rfl (lv_at hl 1 rfl) ?_
        refine g_X8_4 (k := k1) C hV hk1 q_216 dX8_copyFrom_95 ?_
        refine p_X8_4 (k := k0) (x := ((up V k0 3 (V k1 3)) k1 4)) C hV hS hk0 q_216 dX8_copyFrom_98 (fun H locs hV hS => ?_)
        refine lv_aload_n hx hb dX8_copyFrom_101 rfl (lv_at hl 0 rfl) ?_
        refine lv_aload_n hx hb dX8_copyFrom_102 rfl (lv_at hl 1 rfl) ?_
        refine g_X8_5 (k := k1) C hV hk1 q_218 dX8_copyFrom_103 ?_
        refine p_X8_5 (k := k0) (x := ((up (up V k0 3 (V k1 3)) k0 4 ((up V k0 3 (V k1 3)) k1 4)) k1 5)) C hV hS hk0 q_218 dX8_copyFrom_106 (fun H locs hV hS => ?_)
        refine lv_aload_n hx hb dX8_copyFrom_109 rfl (lv_at hl 0 rfl) ?_
        refine lv_aload_n hx hb dX8_copyFrom_110 rfl (lv_at hl 1 rfl) ?_
        refine g_X8_6 (k := k1) C hV hk1 q_220 dX8_copyFrom_111 ?_
        refine p_X8_6 (k := k0) (x := ((up (up (up V k0 3 (V k1 3)) k0 4 ((up V k0 3 (V k1 3)) k1 4)) k0 5 ((up (up V k0 3 (V k1 3)) k0 4 ((up V k0 3 (V k1 3)) k1 4)) k1 5)) k1 6)) C hV hS hk0 q_220 dX8_copyFrom_114 (fun H locs hV hS => ?_)
        refine lv_aload_n hx hb dX8_copyFrom_117 rfl (lv_at hl 0 rfl) ?_
        refine lv_aload_n hx hb dX8_copyFrom_118 rfl (lv_at hl 1 rfl) ?_
        refine g_X8_7 (k := k1) C hV hk1 q_222 dX8_copyFrom_119 ?_
        refine p_X8_7 (k := k0) (x := ((up (up (up (up V k0 3 (V k1 3)) k0 4 ((up V k0 3 (V k1 3)) k1 4)) k0 5 ((up (up V k0 3 (V k1 3)) k0 4 ((up V k0 3 (V k1 3)) k1 4)) k1 5)) k0 6 ((up (up (up V k0 3 (V k1 3)) k0 4 ((up V k0 3 (V k1 3)) k1 4)) k0 5 ((up (up V k0 3 (V k1 3)) k0 4 ((up V k0 3 (V k1 3)) k1 4)) k1 5)) k1 6)) k1 7)) C hV hS hk0 q_222 dX8_copyFrom_122 (fun H locs hV hS => ?_)
        refine lv_aload_n hx hb dX8_copyFrom_125 rfl (lv_at hl 0 rfl) ?_
        refine lv_aload_n hx hb dX8_copyFrom_126 rfl (lv_at hl 1 rfl) ?_
        refine g_X8_8 (k := k1) C hV hk1 q_224 dX8_copyFrom_127 ?_
        refine p_X8_8 (k := k0) (x := ((up (up (up (up (up V k0 3 (V k1 3)) k0 4 ((up V k0 3 (V k1 3)) k1 4)) k0 5 ((up (up V k0 3 (V k1 3)) k0 4 ((up V k0 3 (V k1 3)) k1 4)) k1 5)) k0 6 ((up (up (up V k0 3 (V k1 3)) k0 4 ((up V k0 3 (V k1 3)) k1 4)) k0 5 ((up (up V k0 3 (V k1 3)) k0 4 ((up V k0 3 (V k1 3)) k1 4)) k1 5)) k1 6)) k0 7 ((up (up (up (up V k0 3 (V k1 3)) k0 4 ((up V k0 3 (V k1 3)) k1 4)) k0 5 ((up (up V k0 3 (V k1 3)) k0 4 ((up V k0 3 (V k1 3)) k1 4)) k1 5)) k0 6 ((up (up (up V k0 3 (V k1 3)) k0 4 ((up V k0 3 (V k1 3)) k1 4)) k0 5 ((up (up V k0 3 (V k1 3)) k0 4 ((up V k0 3 (V k1 3)) k1 4)) k1 5)) k1 6)) k1 7)) k1 8)) C hV hS hk0 q_224 dX8_copyFrom_130 (fun H locs hV hS => ?_)
        exact fin_v C hV hS (Option.some.inj hr) dX8_copyFrom_133
      · have hr := ie b_1 hr
        refine lv_aload_n hx hb dX8_copyFrom_64 rfl (lv_at hl 0 rfl) ?_
        refine g_X8_2 (k := k0) C hV hk0 q_213 dX8_copyFrom_65 ?_
        refine lv_iload_n hx hb dX8_copyFrom_68 rfl (lv_at hl 2 rfl) ?_
        obtain ⟨j2, e2, hr⟩ := ob hr
        refine a_4 (k := (k0 + 3)) (i := x2) (j := j2) C hV (kd_s3 hk0) e2 dX8_copyFrom_69 ?_
        refine lv_aload_n hx hb dX8_copyFrom_70 rfl (lv_at hl 1 rfl) ?_
        refine g_X8_2 (k := k1) C hV hk1 q_213 dX8_copyFrom_71 ?_
        refine lv_iload_n hx hb dX8_copyFrom_74 rfl (lv_at hl 2 rfl) ?_
        obtain ⟨j3, e3, hr⟩ := ob hr
        refine a_4 (k := (k1 + 3)) (i := x2) (j := j3) C hV (kd_s3 hk1) e3 dX8_copyFrom_75 ?_
        obtain ⟨q4, e4, hr⟩ := ob hr
        refine cal_v (run_VN (As := [.ref (b0 + ((k1 + 3) + 8 + j3))]) (rest := []) C hV hS (c_X4_copyFrom l G b0 V ((k0 + 3) + 8 + j2) (kd_o (kd_s3 hk0) (ix_in (i := x2) e2).2.2) ((k1 + 3) + 8 + j3) (kd_o (kd_s3 hk1) (ix_in (i := x2) e3).2.2) q4 e4) (rcv hK hV (kd_lt (kd_o (kd_s3 hk0) (ix_in (i := x2) e2).2.2) (by decide)) (cel_7 (kd_o (kd_s3 hk0) (ix_in (i := x2) e2).2.2)) rfl) q_669 q_671 q_27 q_97 q_672 dk_X4_copyFrom (rm_ok (by decide) (by decide)) hl.1 rfl (Nat.le_of_ble_eq_true rfl) dX8_copyFrom_76 ⟨Nat.zero_le _, Nat.zero_le _⟩) hS (fun H locs hV hS => ?_)
        refine lv_iinc (v := x2 + 1) (lv' := [(2, .int (x2 + 1)), (0, .ref (b0 + k0)), (1, .ref (b0 + k1))]) hx hb dX8_copyFrom_79 hl (k := 2) rfl rfl (by decide) rfl (fun ls hl => ?_)
        refine lv_goto (tgt := 58) hx hb dX8_copyFrom_82 (by decide) ?_
        exact ih _ k0 hk0 k1 hk1 (x2 + 1) hr _ _ ls hV hS (lv_sub hl [1, 2, 0] rfl)
  have K_30 : ∀ (n : Nat) (V : St) (k0 : Nat) (hk0 : kd k0 = 1) (k1 : Nat) (hk1 : kd k1 = 1) (x2 : Int32), f_X8_copyFrom_b30 n V k0 k1 x2 = some res → ∀ (H : Heap) (locs : List Loc) (ls : Array Slot), Hd G b0 V H → va_S (Ab b0) s.heap H locs → lv_has ls 3 [(0, .ref (b0 + k0)), (1, .ref (b0 + k1)), (2, .int x2)] → W p l e (rm 1) s m args below meth c H locs 0 0 (MQ below (QV G b0 res) args s 0 0 (Ab b0)) (F0 m 30 ls []) := by
    intro  n
    induction n with
    | zero =>
      intro V k0 hk0 k1 hk1 x2 hr
      rw [f_X8_copyFrom_b30] at hr
      cases hr
    | succ n ih =>
      intro V k0 hk0 k1 hk1 x2 hr H locs ls hV hS hl
      rw [f_X8_copyFrom_b30] at hr
      refine lv_iload_n hx hb dX8_copyFrom_30 rfl (lv_at hl 2 rfl) ?_
      refine lv_iconst (v := 4) hx hb dX8_copyFrom_31 (by decide) ?_
      refine lv_icmp_ge (tgt := 56) hx hb dX8_copyFrom_32 (by decide) (fun b_5 => ?_) (fun b_5 => ?_)
      · have hr := it b_5 hr
        refine lv_iconst (v := 0) hx hb dX8_copyFrom_56 (by decide) ?_
        refine lv_istore_n (lv' := [(2, .int 0), (0, .ref (b0 + k0)), (1, .ref (b0 + k1))]) hx hb dX8_copyFrom_57 rfl hl (by decide) rfl (fun ls hl => ?_)
        exact K_58 500 _ k0 hk0 k1 hk1 0 hr _ _ ls hV hS (lv_sub hl [1, 2, 0] rfl)
      · have hr := ie b_5 hr
        refine lv_aload_n hx hb dX8_copyFrom_35 rfl (lv_at hl 0 rfl) ?_
        refine g_X8_1 (k := k0) C hV hk0 q_212 dX8_copyFrom_36 ?_
        refine lv_iload_n hx hb dX8_copyFrom_39 rfl (lv_at hl 2 rfl) ?_
        obtain ⟨j6, e6, hr⟩ := ob hr
        refine a_3 (k := (k0 + 2)) (i := x2) (j := j6) C hV (kd_s2 hk0) e6 dX8_copyFrom_40 ?_
        refine lv_aload_n hx hb dX8_copyFrom_41 rfl (lv_at hl 1 rfl) ?_
        refine g_X8_1 (k := k1) C hV hk1 q_212 dX8_copyFrom_42 ?_
        refine lv_iload_n hx hb dX8_copyFrom_45 rfl (lv_at hl 2 rfl) ?_
        obtain ⟨j7, e7, hr⟩ := ob hr
        refine a_3 (k := (k1 + 2)) (i := x2) (j := j7) C hV (kd_s2 hk1) e7 dX8_copyFrom_46 ?_
        obtain ⟨q8, e8, hr⟩ := ob hr
        refine cal_v (run_VN (As := [.ref (b0 + ((k1 + 2) + 5 + j7))]) (rest := []) C hV hS (c_X0_copyFrom l G b0 V ((k0 + 2) + 5 + j6) (kd_e (kd_s2 hk0) (ix_in (i := x2) e6).2.2) ((k1 + 2) + 5 + j7) (kd_e (kd_s2 hk1) (ix_in (i := x2) e7).2.2) q8 e8) (rcv hK hV (kd_lt (kd_e (kd_s2 hk0) (ix_in (i := x2) e6).2.2) (by decide)) (cel_6 (kd_e (kd_s2 hk0) (ix_in (i := x2) e6).2.2)) rfl) q_665 q_667 q_26 q_96 q_668 dk_X0_copyFrom (rm_ok (by decide) (by decide)) hl.1 rfl (Nat.le_of_ble_eq_true rfl) dX8_copyFrom_47 ⟨Nat.zero_le _, Nat.zero_le _⟩) hS (fun H locs hV hS => ?_)
        refine lv_iinc (v := x2 + 1) (lv' := [(2, .int (x2 + 1)), (0, .ref (b0 + k0)), (1, .ref (b0 + k1))]) hx hb dX8_copyFrom_50 hl (k := 2) rfl rfl (by decide) rfl (fun ls hl => ?_)
        refine lv_goto (tgt := 30) hx hb dX8_copyFrom_53 (by decide) ?_
        exact ih _ k0 hk0 k1 hk1 (x2 + 1) hr _ _ ls hV hS (lv_sub hl [1, 2, 0] rfl)
  have K_2 : ∀ (n : Nat) (V : St) (k0 : Nat) (hk0 : kd k0 = 1) (k1 : Nat) (hk1 : kd k1 = 1) (x2 : Int32), f_X8_copyFrom_b2 n V k0 k1 x2 = some res → ∀ (H : Heap) (locs : List Loc) (ls : Array Slot), Hd G b0 V H → va_S (Ab b0) s.heap H locs → lv_has ls 3 [(0, .ref (b0 + k0)), (1, .ref (b0 + k1)), (2, .int x2)] → W p l e (rm 1) s m args below meth c H locs 0 0 (MQ below (QV G b0 res) args s 0 0 (Ab b0)) (F0 m 2 ls []) := by
    intro  n
    induction n with
    | zero =>
      intro V k0 hk0 k1 hk1 x2 hr
      rw [f_X8_copyFrom_b2] at hr
      cases hr
    | succ n ih =>
      intro V k0 hk0 k1 hk1 x2 hr H locs ls hV hS hl
      rw [f_X8_copyFrom_b2] at hr
      refine lv_iload_n hx hb dX8_copyFrom_2 rfl (lv_at hl 2 rfl) ?_
      refine lv_iconst (v := 3) hx hb dX8_copyFrom_3 (by decide) ?_
      refine lv_icmp_ge (tgt := 28) hx hb dX8_copyFrom_4 (by decide) (fun b_9 => ?_) (fun b_9 => ?_)
      · have hr := it b_9 hr
        refine lv_iconst (v := 0) hx hb dX8_copyFrom_28 (by decide) ?_
        refine lv_istore_n (lv' := [(2, .int 0), (0, .ref (b0 + k0)), (1, .ref (b0 + k1))]) hx hb dX8_copyFrom_29 rfl hl (by decide) rfl (fun ls hl => ?_)
        exact K_30 500 _ k0 hk0 k1 hk1 0 hr _ _ ls hV hS (lv_sub hl [1, 2, 0] rfl)
      · have hr := ie b_9 hr
        refine lv_aload_n hx hb dX8_copyFrom_7 rfl (lv_at hl 0 rfl) ?_
        refine g_X8_0 (k := k0) C hV hk0 q_211 dX8_copyFrom_8 ?_
        refine lv_iload_n hx hb dX8_copyFrom_11 rfl (lv_at hl 2 rfl) ?_
        obtain ⟨j10, e10, hr⟩ := ob hr
        refine a_2 (k := (k0 + 1)) (i := x2) (j := j10) C hV (kd_s1 hk0) e10 dX8_copyFrom_12 ?_
        refine lv_aload_n hx hb dX8_copyFrom_13 rfl (lv_at hl 1 rfl) ?_
        refine g_X8_0 (k := k1) C hV hk1 q_211 dX8_copyFrom_14 ?_
        refine lv_iload_n hx hb dX8_copyFrom_17 rfl (lv_at hl 2 rfl) ?_
        obtain ⟨j11, e11, hr⟩ := ob hr
        refine a_2 (k := (k1 + 1)) (i := x2) (j := j11) C hV (kd_s1 hk1) e11 dX8_copyFrom_18 ?_
        obtain ⟨q12, e12, hr⟩ := ob hr
        refine cal_v (run_VN (As := [.ref (b0 + ((k1 + 1) + 3 + j11))]) (rest := []) C hV hS (c_X3_copyFrom l G b0 V ((k0 + 1) + 3 + j10) (kd_n (kd_s1 hk0) (ix_in (i := x2) e10).2.2) ((k1 + 1) + 3 + j11) (kd_n (kd_s1 hk1) (ix_in (i := x2) e11).2.2) q12 e12) (rcv hK hV (kd_lt (kd_n (kd_s1 hk0) (ix_in (i := x2) e10).2.2) (by decide)) (cel_5 (kd_n (kd_s1 hk0) (ix_in (i := x2) e10).2.2)) rfl) q_661 q_663 q_25 q_95 q_664 dk_X3_copyFrom (rm_ok (by decide) (by decide)) hl.1 rfl (Nat.le_of_ble_eq_true rfl) dX8_copyFrom_19 ⟨Nat.zero_le _, Nat.zero_le _⟩) hS (fun H locs hV hS => ?_)
        refine lv_iinc (v := x2 + 1) (lv' := [(2, .int (x2 + 1)), (0, .ref (b0 + k0)), (1, .ref (b0 + k1))]) hx hb dX8_copyFrom_22 hl (k := 2) rfl rfl (by decide) rfl (fun ls hl => ?_)
        refine lv_goto (tgt := 2) hx hb dX8_copyFrom_25 (by decide) ?_
        exact ih _ k0 hk0 k1 hk1 (x2 + 1) hr _ _ ls hV hS (lv_sub hl [1, 2, 0] rfl)
  unfold f_X8_copyFrom at hr
  refine lv_iconst (v := 0) hx hb dX8_copyFrom_0 (by decide) ?_
  refine lv_istore_n (lv' := [(2, .int 0), (0, .ref (b0 + k0)), (1, .ref (b0 + k1))]) hx hb dX8_copyFrom_1 rfl hl (by decide) rfl (fun ls hl => ?_)
  exact K_2 500 _ k0 hk0 k1 hk1 0 hr _ _ ls hV hS (lv_sub hl [1, 2, 0] rfl)
set_option maxHeartbeats 4000000 in
set_option maxRecDepth 100000 in
theorem c_X1_push (l : Launch) (G : LG) (b0 : Nat) (V : St) (k1 : Nat) (hk1 : kd k1 = 1) (res : St) (hr : f_X1_push V k1 = some res) : Met l yX1_push (wy yX1_push cX1_push 2 none) (rm 2) (va_Pc [.ref (b0 + 52), .ref (b0 + k1)] (Iv G b0 V)) (QV G b0 res) 0 0 (Ab b0) := by
  refine mk_m (by decide +kernel) (Nat.le_of_ble_eq_true rfl) ?_
  intro p e s m below meth c C hV hS ls hl
  obtain ⟨args, hargs⟩ : ∃ z, z = ([.ref (b0 + 52), .ref (b0 + k1)] : List Value).toArray := ⟨_, rfl⟩
  rw [← hargs] at C ⊢
  obtain ⟨hx, hb, hrt, hml, hown, hts, hlocks, hK, hSv⟩ := id C
  have hl : lv_has ls 2 [(0, .ref (b0 + 52)), (1, .ref (b0 + k1))] := hl
  unfold f_X1_push at hr
  refine lv_aload_n hx hb dX1_push_0 rfl (lv_at hl 0 rfl) ?_
  refine g_X1_0 C hV q_254 dX1_push_1 ?_
  refine lv_aload_n hx hb dX1_push_4 rfl (lv_at hl 0 rfl) ?_
  refine g_X1_1 C hV q_255 dX1_push_5 ?_
  refine lv_aload_n hx hb dX1_push_8 rfl (lv_at hl 0 rfl) ?_
  refine g_X1_2 C hV q_256 dX1_push_9 ?_
  refine lv_iadd hx hb dX1_push_12 ?_
  refine lv_bipush (v := 8) hx hb dX1_push_13 (by decide) ?_
  obtain ⟨q1, e1, hr⟩ := ob hr
  refine cal_i (run_S (As := [.int ((V 52 1) + (V 52 2)), .int 8]) (rest := [.ref (b0 + 53)]) C hV hS (c_J9_floorMod_7cf53 l G b0 V ((V 52 1) + (V 52 2)) 8 q1 e1) q_654 q_655 q_112 q_656 dk_J9_floorMod_7cf53 (rm_ok (by decide) (by decide)) hl.1 rfl (Nat.le_of_ble_eq_true rfl) dX1_push_15 ⟨Nat.zero_le _, Nat.zero_le _⟩) hS (fun H locs hV hS => ?_)
  obtain ⟨j2, e2, hr⟩ := ob hr
  refine a_9 (k := 53) (i := q1) (j := j2) C hV z_53 e2 dX1_push_18 ?_
  refine lv_aload_n hx hb dX1_push_19 rfl (lv_at hl 1 rfl) ?_
  obtain ⟨q3, e3, hr⟩ := ob hr
  refine cal_v (run_VN (As := [.ref (b0 + k1)]) (rest := []) C hV hS (c_X8_copyFrom l G b0 V (53 + 1 + 17 * j2) (kd_h z_53 (ix_in (i := q1) e2).2.2) k1 hk1 q3 e3) (rcv hK hV (kd_lt (kd_h z_53 (ix_in (i := q1) e2).2.2) (by decide)) (cel_1 (kd_h z_53 (ix_in (i := q1) e2).2.2)) rfl) q_657 q_659 q_24 q_94 q_660 dk_X8_copyFrom (rm_ok (by decide) (by decide)) hl.1 rfl (Nat.le_of_ble_eq_true rfl) dX1_push_20 ⟨Nat.zero_le _, Nat.zero_le _⟩) hS (fun H locs hV hS => ?_)
  refine lv_aload_n hx hb dX1_push_23 rfl (lv_at hl 0 rfl) ?_
  refine g_X1_2 C hV q_256 dX1_push_24 ?_
  refine lv_bipush (v := 8) hx hb dX1_push_27 (by decide) ?_
  refine lv_icmp_ge (tgt := 45) hx hb dX1_push_29 (by decide) (fun b_4 => ?_) (fun b_4 => ?_)
  · have hr := it b_4 hr
    refine lv_aload_n hx hb dX1_push_45 rfl (lv_at hl 0 rfl) ?_
    refine lv_aload_n hx hb dX1_push_46 rfl (lv_at hl 0 rfl) ?_
    refine g_X1_1 C hV q_255 dX1_push_47 ?_
    refine lv_iconst (v := 1) hx hb dX1_push_50 (by decide) ?_
    refine lv_iadd hx hb dX1_push_51 ?_
    refine lv_bipush (v := 8) hx hb dX1_push_52 (by decide) ?_
    obtain ⟨q5, e5, hr⟩ := ob hr
    refine cal_i (run_S (As := [.int ((q3 52 1) + 1), .int 8]) (rest := [.ref (b0 + 52)]) C hV hS (c_J9_floorMod_7cf53 l G b0 q3 ((q3 52 1) + 1) 8 q5 e5) q_654 q_655 q_112 q_656 dk_J9_floorMod_7cf53 (rm_ok (by decide) (by decide)) hl.1 rfl (Nat.le_of_ble_eq_true rfl) dX1_push_54 ⟨Nat.zero_le _, Nat.zero_le _⟩) hS (fun H locs hV hS => ?_)
    refine p_X1_1 (x := q5) C hV hS q_255 dX1_push_57 (fun H locs hV hS => ?_)
    exact fin_v C hV hS (Option.some.inj hr) dX1_push_60
  · have hr := ie b_4 hr
    refine lv_aload_n hx hb dX1_push_32 rfl (lv_at hl 0 rfl) ?_
    refine lv_dup hx hb dX1_push_33 rfl ?_
    refine g_X1_2 C hV q_256 dX1_push_34 ?_
    refine lv_iconst (v := 1) hx hb dX1_push_37 (by decide) ?_
    refine lv_iadd hx hb dX1_push_38 ?_
    refine p_X1_2 (x := ((q3 52 2) + 1)) C hV hS q_256 dX1_push_39 (fun H locs hV hS => ?_)
    refine lv_goto (tgt := 60) hx hb dX1_push_42 (by decide) ?_
    exact fin_v C hV hS (Option.some.inj hr) dX1_push_60
set_option maxHeartbeats 4000000 in
set_option maxRecDepth 100000 in
theorem c_X1_popInto (l : Launch) (G : LG) (b0 : Nat) (V : St) (k1 : Nat) (hk1 : kd k1 = 1) (res : St) (hr : f_X1_popInto V k1 = some res) : Met l yX1_popInto (wy yX1_popInto cX1_popInto 2 none) (rm 2) (va_Pc [.ref (b0 + 52), .ref (b0 + k1)] (Iv G b0 V)) (QV G b0 res) 0 0 (Ab b0) := by
  refine mk_m (by decide +kernel) (Nat.le_of_ble_eq_true rfl) ?_
  intro p e s m below meth c C hV hS ls hl
  obtain ⟨args, hargs⟩ : ∃ z, z = ([.ref (b0 + 52), .ref (b0 + k1)] : List Value).toArray := ⟨_, rfl⟩
  rw [← hargs] at C ⊢
  obtain ⟨hx, hb, hrt, hml, hown, hts, hlocks, hK, hSv⟩ := id C
  have hl : lv_has ls 2 [(0, .ref (b0 + 52)), (1, .ref (b0 + k1))] := hl
  unfold f_X1_popInto at hr
  refine lv_aload_n hx hb dX1_popInto_0 rfl (lv_at hl 0 rfl) ?_
  refine g_X1_2 C hV q_256 dX1_popInto_1 ?_
  refine lv_if_le (tgt := 40) hx hb dX1_popInto_4 (by decide) (fun b_1 => ?_) (fun b_1 => ?_)
  · have hr := it b_1 hr
    exact fin_v C hV hS (Option.some.inj hr) dX1_popInto_40
  · have hr := ie b_1 hr
    refine lv_aload_n hx hb dX1_popInto_7 rfl (lv_at hl 0 rfl) ?_
    refine lv_dup hx hb dX1_popInto_8 rfl ?_
    refine g_X1_2 C hV q_256 dX1_popInto_9 ?_
    refine lv_iconst (v := 1) hx hb dX1_popInto_12 (by decide) ?_
    refine lv_isub hx hb dX1_popInto_13 ?_
    refine p_X1_2 (x := ((V 52 2) - 1)) C hV hS q_256 dX1_popInto_14 (fun H locs hV hS => ?_)
    refine lv_aload_n hx hb dX1_popInto_17 rfl (lv_at hl 1 rfl) ?_
    refine lv_aload_n hx hb dX1_popInto_18 rfl (lv_at hl 0 rfl) ?_
    refine g_X1_0 C hV q_254 dX1_popInto_19 ?_
    refine lv_aload_n hx hb dX1_popInto_22 rfl (lv_at hl 0 rfl) ?_
    refine g_X1_1 C hV q_255 dX1_popInto_23 ?_
    refine lv_aload_n hx hb dX1_popInto_26 rfl (lv_at hl 0 rfl) ?_
    refine g_X1_2 C hV q_256 dX1_popInto_27 ?_
    refine lv_iadd hx hb dX1_popInto_30 ?_
    refine lv_bipush (v := 8) hx hb dX1_popInto_31 (by decide) ?_
    obtain ⟨q2, e2, hr⟩ := ob hr
    refine cal_i (run_S (As := [.int (((up V 52 2 ((V 52 2) - 1)) 52 1) + ((up V 52 2 ((V 52 2) - 1)) 52 2)), .int 8]) (rest := [.ref (b0 + 53), .ref (b0 + k1)]) C hV hS (c_J9_floorMod_7cf53 l G b0 (up V 52 2 ((V 52 2) - 1)) (((up V 52 2 ((V 52 2) - 1)) 52 1) + ((up V 52 2 ((V 52 2) - 1)) 52 2)) 8 q2 e2) q_654 q_655 q_112 q_656 dk_J9_floorMod_7cf53 (rm_ok (by decide) (by decide)) hl.1 rfl (Nat.le_of_ble_eq_true rfl) dX1_popInto_33 ⟨Nat.zero_le _, Nat.zero_le _⟩) hS (fun H locs hV hS => ?_)
    obtain ⟨j3, e3, hr⟩ := ob hr
    refine a_9 (k := 53) (i := q2) (j := j3) C hV z_53 e3 dX1_popInto_36 ?_
    obtain ⟨q4, e4, hr⟩ := ob hr
    refine cal_v (run_VN (As := [.ref (b0 + (53 + 1 + 17 * j3))]) (rest := []) C hV hS (c_X8_copyFrom l G b0 (up V 52 2 ((V 52 2) - 1)) k1 hk1 (53 + 1 + 17 * j3) (kd_h z_53 (ix_in (i := q2) e3).2.2) q4 e4) (rcv hK hV (kd_lt hk1 (by decide)) (cel_1 hk1) rfl) q_657 q_659 q_24 q_94 q_660 dk_X8_copyFrom (rm_ok (by decide) (by decide)) hl.1 rfl (Nat.le_of_ble_eq_true rfl) dX1_popInto_37 ⟨Nat.zero_le _, Nat.zero_le _⟩) hS (fun H locs hV hS => ?_)
    exact fin_v C hV hS (Option.some.inj hr) dX1_popInto_40
set_option maxHeartbeats 4000000 in
set_option maxRecDepth 100000 in
theorem c_X1_clear (l : Launch) (G : LG) (b0 : Nat) (V : St) (res : St) (hr : f_X1_clear V = some res) : Met l yX1_clear (wy yX1_clear cX1_clear 1 none) (rm 0) (va_Pc [.ref (b0 + 52)] (Iv G b0 V)) (QV G b0 res) 0 0 (Ab b0) := by
  refine mk_m (by decide +kernel) (Nat.le_of_ble_eq_true rfl) ?_
  intro p e s m below meth c C hV hS ls hl
  obtain ⟨args, hargs⟩ : ∃ z, z = ([.ref (b0 + 52)] : List Value).toArray := ⟨_, rfl⟩
  rw [← hargs] at C ⊢
  obtain ⟨hx, hb, hrt, hml, hown, hts, hlocks, hK, hSv⟩ := id C
  have hl : lv_has ls 1 [(0, .ref (b0 + 52))] := hl
  unfold f_X1_clear at hr
  refine lv_aload_n hx hb dX1_clear_0 rfl (lv_at hl 0 rfl) ?_
  refine lv_iconst (v := 0) hx hb dX1_clear_1 (by decide) ?_
  refine p_X1_2 (x := 0) C hV hS q_256 dX1_clear_2 (fun H locs hV hS => ?_)
  exact fin_v C hV hS (Option.some.inj hr) dX1_clear_5
set_option maxHeartbeats 4000000 in
set_option maxRecDepth 100000 in
theorem c_X2_clear (l : Launch) (G : LG) (b0 : Nat) (V : St) (res : St) (hr : f_X2_clear V = some res) : Met l yX2_clear (wy yX2_clear cX2_clear 1 none) (rm 0) (va_Pc [.ref (b0 + 205)] (Iv G b0 V)) (QV G b0 res) 0 0 (Ab b0) := by
  refine mk_m (by decide +kernel) (Nat.le_of_ble_eq_true rfl) ?_
  intro p e s m below meth c C hV hS ls hl
  obtain ⟨args, hargs⟩ : ∃ z, z = ([.ref (b0 + 205)] : List Value).toArray := ⟨_, rfl⟩
  rw [← hargs] at C ⊢
  obtain ⟨hx, hb, hrt, hml, hown, hts, hlocks, hK, hSv⟩ := id C
  have hl : lv_has ls 1 [(0, .ref (b0 + 205))] := hl
  unfold f_X2_clear at hr
  refine lv_aload_n hx hb dX2_clear_0 rfl (lv_at hl 0 rfl) ?_
  refine lv_iconst (v := 0) hx hb dX2_clear_1 (by decide) ?_
  refine p_X2_1 (x := 0) C hV hS q_313 dX2_clear_2 (fun H locs hV hS => ?_)
  exact fin_v C hV hS (Option.some.inj hr) dX2_clear_5
set_option maxHeartbeats 4000000 in
set_option maxRecDepth 100000 in
theorem c_X2_append (l : Launch) (G : LG) (b0 : Nat) (V : St) (x1 : Int32) (res : St) (hr : f_X2_append V x1 = some res) : Met l yX2_append (wy yX2_append cX2_append 2 none) (rm 0) (va_Pc [.ref (b0 + 205), .int x1] (Iv G b0 V)) (QV G b0 res) 0 0 (Ab b0) := by
  refine mk_m (by decide +kernel) (Nat.le_of_ble_eq_true rfl) ?_
  intro p e s m below meth c C hV hS ls hl
  obtain ⟨args, hargs⟩ : ∃ z, z = ([.ref (b0 + 205), .int x1] : List Value).toArray := ⟨_, rfl⟩
  rw [← hargs] at C ⊢
  obtain ⟨hx, hb, hrt, hml, hown, hts, hlocks, hK, hSv⟩ := id C
  have hl : lv_has ls 2 [(0, .ref (b0 + 205)), (1, .int x1)] := hl
  unfold f_X2_append at hr
  refine lv_aload_n hx hb dX2_append_0 rfl (lv_at hl 0 rfl) ?_
  refine g_X2_1 C hV q_313 dX2_append_1 ?_
  refine lv_if_lt (tgt := 36) hx hb dX2_append_4 (by decide) (fun b_1 => ?_) (fun b_1 => ?_)
  · have hr := it b_1 hr
    exact fin_v C hV hS (Option.some.inj hr) dX2_append_36
  · have hr := ie b_1 hr
    refine lv_aload_n hx hb dX2_append_7 rfl (lv_at hl 0 rfl) ?_
    refine g_X2_1 C hV q_313 dX2_append_8 ?_
    refine lv_bipush (v := 25) hx hb dX2_append_11 (by decide) ?_
    refine lv_icmp_ge (tgt := 36) hx hb dX2_append_13 (by decide) (fun b_2 => ?_) (fun b_2 => ?_)
    · have hr := it b_2 hr
      exact fin_v C hV hS (Option.some.inj hr) dX2_append_36
    · have hr := ie b_2 hr
      refine lv_aload_n hx hb dX2_append_16 rfl (lv_at hl 0 rfl) ?_
      refine g_X2_0 C hV q_312 dX2_append_17 ?_
      refine lv_aload_n hx hb dX2_append_20 rfl (lv_at hl 0 rfl) ?_
      refine g_X2_1 C hV q_313 dX2_append_21 ?_
      refine lv_iload_n hx hb dX2_append_24 rfl (lv_at hl 1 rfl) ?_
      obtain ⟨j3, e3, hr⟩ := ob hr
      refine s_18 (k := 206) (i := (V 205 1)) (j := j3) (x := x1) C hV hS z_206 e3 dX2_append_25 (fun H locs hV hS => ?_)
      refine lv_aload_n hx hb dX2_append_26 rfl (lv_at hl 0 rfl) ?_
      refine lv_dup hx hb dX2_append_27 rfl ?_
      refine g_X2_1 C hV q_313 dX2_append_28 ?_
      refine lv_iconst (v := 1) hx hb dX2_append_31 (by decide) ?_
      refine lv_iadd hx hb dX2_append_32 ?_
      refine p_X2_1 (x := (((up V 206 j3 (vp_nar .char x1)) 205 1) + 1)) C hV hS q_313 dX2_append_33 (fun H locs hV hS => ?_)
      exact fin_v C hV hS (Option.some.inj hr) dX2_append_36
set_option maxHeartbeats 4000000 in
set_option maxRecDepth 100000 in
theorem c_X9_isIn (l : Launch) (G : LG) (b0 : Nat) (V : St) (x0 : Int32) (x1 : Int32) (res : Int32) (hr : f_X9_isIn x0 x1 = some res) : Met l yX9_isIn (wy yX9_isIn cX9_isIn 2 (some .boolean)) (rm 0) (va_Pc [.int x0, .int x1] (Iv G b0 V)) (QI G b0 res V) 0 0 (Ab b0) := by
  refine mk_m (by decide +kernel) (Nat.le_of_ble_eq_true rfl) ?_
  intro p e s m below meth c C hV hS ls hl
  obtain ⟨args, hargs⟩ : ∃ z, z = ([.int x0, .int x1] : List Value).toArray := ⟨_, rfl⟩
  rw [← hargs] at C ⊢
  obtain ⟨hx, hb, hrt, hml, hown, hts, hlocks, hK, hSv⟩ := id C
  have hl : lv_has ls 2 [(0, .int x0), (1, .int x1)] := hl
  unfold f_X9_isIn at hr
  refine lv_iload_n hx hb dX9_isIn_0 rfl (lv_at hl 0 rfl) ?_
  refine lv_iload_n hx hb dX9_isIn_1 rfl (lv_at hl 1 rfl) ?_
  refine lv_ishr hx hb dX9_isIn_2 ?_
  refine lv_iconst (v := 1) hx hb dX9_isIn_3 (by decide) ?_
  refine lv_iand hx hb dX9_isIn_4 ?_
  refine lv_if_eq (tgt := 12) hx hb dX9_isIn_5 (by decide) (fun b_1 => ?_) (fun b_1 => ?_)
  · have hr := it b_1 hr
    refine lv_iconst (v := 0) hx hb dX9_isIn_12 (by decide) ?_
    exact fin_z C hV hS (by decide) (Option.some.inj hr) dX9_isIn_13
  · have hr := ie b_1 hr
    refine lv_iconst (v := 1) hx hb dX9_isIn_8 (by decide) ?_
    refine lv_goto (tgt := 13) hx hb dX9_isIn_9 (by decide) ?_
    exact fin_z C hV hS (by decide) (Option.some.inj hr) dX9_isIn_13
set_option maxHeartbeats 4000000 in
set_option maxRecDepth 100000 in
theorem c_X9_letterOf (l : Launch) (G : LG) (b0 : Nat) (V : St) (x0 : Int32) (res : Int32) (hr : f_X9_letterOf x0 = some res) : Met l yX9_letterOf (wy yX9_letterOf cX9_letterOf 1 (some .char)) (rm 0) (va_Pc [.int x0] (Iv G b0 V)) (QI G b0 res V) 0 0 (Ab b0) := by
  refine mk_m (by decide +kernel) (Nat.le_of_ble_eq_true rfl) ?_
  intro p e s m below meth c C hV hS ls hl
  obtain ⟨args, hargs⟩ : ∃ z, z = ([.int x0] : List Value).toArray := ⟨_, rfl⟩
  rw [← hargs] at C ⊢
  obtain ⟨hx, hb, hrt, hml, hown, hts, hlocks, hK, hSv⟩ := id C
  have hl : lv_has ls 1 [(0, .int x0)] := hl
  unfold f_X9_letterOf at hr
  refine lv_bipush (v := 97) hx hb dX9_letterOf_0 (by decide) ?_
  refine lv_iload_n hx hb dX9_letterOf_2 rfl (lv_at hl 0 rfl) ?_
  refine lv_iadd hx hb dX9_letterOf_3 ?_
  refine lv_iconst (v := 1) hx hb dX9_letterOf_4 (by decide) ?_
  refine lv_isub hx hb dX9_letterOf_5 ?_
  refine lv_i2c (v := i2c ((97 + x0) - 1)) hx hb dX9_letterOf_6 rfl ?_
  obtain ⟨q1, e1, hr⟩ := ob hr
  exact fin_c C hV hS (nr_in e1).2 (Option.some.inj hr) dX9_letterOf_7
set_option maxHeartbeats 4000000 in
set_option maxRecDepth 100000 in
theorem c_X2_appendKnots (l : Launch) (G : LG) (b0 : Nat) (V : St) (x1 : Int32) (x2 : Int32) (res : St) (hr : f_X2_appendKnots V x1 x2 = some res) : Met l yX2_appendKnots (wy yX2_appendKnots cX2_appendKnots 5 none) (rm 1) (va_Pc [.ref (b0 + 205), .int x1, .int x2] (Iv G b0 V)) (QV G b0 res) 0 0 (Ab b0) := by
  refine mk_m (by decide +kernel) (Nat.le_of_ble_eq_true rfl) ?_
  intro p e s m below meth c C hV hS ls hl
  obtain ⟨args, hargs⟩ : ∃ z, z = ([.ref (b0 + 205), .int x1, .int x2] : List Value).toArray := ⟨_, rfl⟩
  rw [← hargs] at C ⊢
  obtain ⟨hx, hb, hrt, hml, hown, hts, hlocks, hK, hSv⟩ := id C
  have hl : lv_has ls 5 [(0, .ref (b0 + 205)), (1, .int x1), (2, .int x2)] := hl
  have K_51 : ∀ (c_2 : St → Int32 → Int32 → Int32 → Option (St)) (hc_2 : ∀ (V : St) (x1 : Int32) (x2 : Int32) (x3 : Int32), c_2 V x1 x2 x3 = some res → ∀ (H : Heap) (locs : List Loc) (ls : Array Slot), Hd G b0 V H → va_S (Ab b0) s.heap H locs → lv_has ls 5 [(0, .ref (b0 + 205)), (1, .int x1), (2, .int x2), (3, .int x3)] → W p l e (rm 1) s m args below meth c H locs 0 0 (MQ below (QV G b0 res) args s 0 0 (Ab b0)) (F0 m 2 ls [])) (V : St) (x1 : Int32) (x2 : Int32) (x3 : Int32), f_X2_appendKnots_b51 c_2 V x1 x2 x3 = some res → ∀ (H : Heap) (locs : List Loc) (ls : Array Slot), Hd G b0 V H → va_S (Ab b0) s.heap H locs → lv_has ls 5 [(0, .ref (b0 + 205)), (1, .int x1), (2, .int x2), (3, .int x3)] → W p l e (rm 1) s m args below meth c H locs 0 0 (MQ below (QV G b0 res) args s 0 0 (Ab b0)) (F0 m 51 ls []) := by
    intro c_2 hc_2 V x1 x2 x3 hr H locs ls hV hS hl
    unfold f_X2_appendKnots_b51 at hr
    refine lv_iinc (v := x3 + 1) (lv' := [(3, .int (x3 + 1)), (0, .ref (b0 + 205)), (1, .int x1), (2, .int x2)]) hx hb dX2_appendKnots_51 hl (k := 3) rfl rfl (by decide) rfl (fun ls hl => ?_)
    refine lv_goto (tgt := 2) hx hb dX2_appendKnots_54 (by decide) ?_
    exact hc_2 _ x1 x2 (x3 + 1) hr _ _ ls hV hS (lv_sub hl [1, 2, 3, 0] rfl)
  have K_34 : ∀ (c_2 : St → Int32 → Int32 → Int32 → Option (St)) (hc_2 : ∀ (V : St) (x1 : Int32) (x2 : Int32) (x3 : Int32), c_2 V x1 x2 x3 = some res → ∀ (H : Heap) (locs : List Loc) (ls : Array Slot), Hd G b0 V H → va_S (Ab b0) s.heap H locs → lv_has ls 5 [(0, .ref (b0 + 205)), (1, .int x1), (2, .int x2), (3, .int x3)] → W p l e (rm 1) s m args below meth c H locs 0 0 (MQ below (QV G b0 res) args s 0 0 (Ab b0)) (F0 m 2 ls [])) (V : St) (x1 : Int32) (x2 : Int32) (x3 : Int32) (y0 : Int32) (y1 : Int32), f_X2_appendKnots_b34 c_2 V x1 x2 x3 y0 y1 = some res → ∀ (H : Heap) (locs : List Loc) (ls : Array Slot), Hd G b0 V H → va_S (Ab b0) s.heap H locs → lv_has ls 5 [(0, .ref (b0 + 205)), (1, .int x1), (2, .int x2), (3, .int x3)] → W p l e (rm 1) s m args below meth c H locs 0 0 (MQ below (QV G b0 res) args s 0 0 (Ab b0)) (F0 m 34 ls [.int y0, .int y1]) := by
    intro c_2 hc_2 V x1 x2 x3 y0 y1 hr H locs ls hV hS hl
    unfold f_X2_appendKnots_b34 at hr
    refine lv_iadd hx hb dX2_appendKnots_34 ?_
    refine lv_istore (lv' := [(4, .int (y1 + y0)), (0, .ref (b0 + 205)), (1, .int x1), (2, .int x2), (3, .int x3)]) hx hb dX2_appendKnots_35 hl (by decide) rfl (fun ls hl => ?_)
    refine lv_iload hx hb dX2_appendKnots_37 (lv_at hl 0 rfl) ?_
    refine lv_if_eq (tgt := 51) hx hb dX2_appendKnots_39 (by decide) (fun b_1 => ?_) (fun b_1 => ?_)
    · have hr := it b_1 hr
      exact K_51 c_2 hc_2 _ x1 x2 x3 hr _ _ ls hV hS (lv_sub hl [1, 2, 3, 4] rfl)
    · have hr := ie b_1 hr
      refine lv_aload_n hx hb dX2_appendKnots_42 rfl (lv_at hl 1 rfl) ?_
      refine lv_iload hx hb dX2_appendKnots_43 (lv_at hl 0 rfl) ?_
      obtain ⟨q2, e2, hr⟩ := ob hr
      refine cal_i (run_SN (As := [.int (y1 + y0)]) (rest := [.ref (b0 + 205)]) C hV hS (c_X9_letterOf l G b0 V (y1 + y0) q2 e2) q_1319 q_1320 q_93 q_1321 dk_X9_letterOf (rm_ok (by decide) (by decide)) hl.1 rfl (Nat.le_of_ble_eq_true rfl) dX2_appendKnots_45 ⟨Nat.zero_le _, Nat.zero_le _⟩) hS (fun H locs hV hS => ?_)
      obtain ⟨q3, e3, hr⟩ := ob hr
      refine cal_v (run_V (As := [.int q2]) (rest := []) C hV hS (c_X2_append l G b0 V q2 q3 e3) (rcv hK hV (kd_lt z_205 (by decide)) (cel_17 z_205) rfl) q_1322 q_1324 q_72 q_101 q_1325 dk_X2_append (rm_ok (by decide) (by decide)) hl.1 rfl (Nat.le_of_ble_eq_true rfl) dX2_appendKnots_48 ⟨Nat.zero_le _, Nat.zero_le _⟩) hS (fun H locs hV hS => ?_)
      exact K_51 c_2 hc_2 _ x1 x2 x3 hr _ _ ls hV hS (lv_sub hl [1, 2, 3, 4] rfl)
  have K_21 : ∀ (c_2 : St → Int32 → Int32 → Int32 → Option (St)) (hc_2 : ∀ (V : St) (x1 : Int32) (x2 : Int32) (x3 : Int32), c_2 V x1 x2 x3 = some res → ∀ (H : Heap) (locs : List Loc) (ls : Array Slot), Hd G b0 V H → va_S (Ab b0) s.heap H locs → lv_has ls 5 [(0, .ref (b0 + 205)), (1, .int x1), (2, .int x2), (3, .int x3)] → W p l e (rm 1) s m args below meth c H locs 0 0 (MQ below (QV G b0 res) args s 0 0 (Ab b0)) (F0 m 2 ls [])) (V : St) (x1 : Int32) (x2 : Int32) (x3 : Int32) (y0 : Int32), f_X2_appendKnots_b21 c_2 V x1 x2 x3 y0 = some res → ∀ (H : Heap) (locs : List Loc) (ls : Array Slot), Hd G b0 V H → va_S (Ab b0) s.heap H locs → lv_has ls 5 [(0, .ref (b0 + 205)), (1, .int x1), (2, .int x2), (3, .int x3)] → W p l e (rm 1) s m args below meth c H locs 0 0 (MQ below (QV G b0 res) args s 0 0 (Ab b0)) (F0 m 21 ls [.int y0]) := by
    intro c_2 hc_2 V x1 x2 x3 y0 hr H locs ls hV hS hl
    unfold f_X2_appendKnots_b21 at hr
    refine lv_iload_n hx hb dX2_appendKnots_21 rfl (lv_at hl 2 rfl) ?_
    refine lv_iload_n hx hb dX2_appendKnots_22 rfl (lv_at hl 3 rfl) ?_
    obtain ⟨q4, e4, hr⟩ := ob hr
    refine cal_i (run_SN (As := [.int x2, .int x3]) (rest := [.int y0]) C hV hS (c_X9_isIn l G b0 V x2 x3 q4 e4) q_1318 q_624 q_93 q_625 dk_X9_isIn (rm_ok (by decide) (by decide)) hl.1 rfl (Nat.le_of_ble_eq_true rfl) dX2_appendKnots_23 ⟨Nat.zero_le _, Nat.zero_le _⟩) hS (fun H locs hV hS => ?_)
    refine lv_if_eq (tgt := 33) hx hb dX2_appendKnots_26 (by decide) (fun b_5 => ?_) (fun b_5 => ?_)
    · have hr := it b_5 hr
      refine lv_iconst (v := 0) hx hb dX2_appendKnots_33 (by decide) ?_
      exact K_34 c_2 hc_2 _ x1 x2 x3 0 y0 hr _ _ ls hV hS (lv_sub hl [0, 1, 2, 3] rfl)
    · have hr := ie b_5 hr
      refine lv_iconst (v := 2) hx hb dX2_appendKnots_29 (by decide) ?_
      refine lv_goto (tgt := 34) hx hb dX2_appendKnots_30 (by decide) ?_
      exact K_34 c_2 hc_2 _ x1 x2 x3 2 y0 hr _ _ ls hV hS (lv_sub hl [0, 1, 2, 3] rfl)
  have K_2 : ∀ (n : Nat) (V : St) (x1 : Int32) (x2 : Int32) (x3 : Int32), f_X2_appendKnots_b2 n V x1 x2 x3 = some res → ∀ (H : Heap) (locs : List Loc) (ls : Array Slot), Hd G b0 V H → va_S (Ab b0) s.heap H locs → lv_has ls 5 [(0, .ref (b0 + 205)), (1, .int x1), (2, .int x2), (3, .int x3)] → W p l e (rm 1) s m args below meth c H locs 0 0 (MQ below (QV G b0 res) args s 0 0 (Ab b0)) (F0 m 2 ls []) := by
    intro  n
    induction n with
    | zero =>
      intro V x1 x2 x3 hr
      rw [f_X2_appendKnots_b2] at hr
      cases hr
    | succ n ih =>
      intro V x1 x2 x3 hr H locs ls hV hS hl
      rw [f_X2_appendKnots_b2] at hr
      refine lv_iload_n hx hb dX2_appendKnots_2 rfl (lv_at hl 3 rfl) ?_
      refine lv_bipush (v := 24) hx hb dX2_appendKnots_3 (by decide) ?_
      refine lv_icmp_ge (tgt := 57) hx hb dX2_appendKnots_5 (by decide) (fun b_6 => ?_) (fun b_6 => ?_)
      · have hr := it b_6 hr
        exact fin_v C hV hS (Option.some.inj hr) dX2_appendKnots_57
      · have hr := ie b_6 hr
        refine lv_iload_n hx hb dX2_appendKnots_8 rfl (lv_at hl 1 rfl) ?_
        refine lv_iload_n hx hb dX2_appendKnots_9 rfl (lv_at hl 3 rfl) ?_
        obtain ⟨q7, e7, hr⟩ := ob hr
        refine cal_i (run_SN (As := [.int x1, .int x3]) (rest := []) C hV hS (c_X9_isIn l G b0 V x1 x3 q7 e7) q_1318 q_624 q_93 q_625 dk_X9_isIn (rm_ok (by decide) (by decide)) hl.1 rfl (Nat.le_of_ble_eq_true rfl) dX2_appendKnots_10 ⟨Nat.zero_le _, Nat.zero_le _⟩) hS (fun H locs hV hS => ?_)
        refine lv_if_eq (tgt := 20) hx hb dX2_appendKnots_13 (by decide) (fun b_8 => ?_) (fun b_8 => ?_)
        · have hr := it b_8 hr
          refine lv_iconst (v := 0) hx hb dX2_appendKnots_20 (by decide) ?_
          exact K_21 (fun V x1 x2 x3 => f_X2_appendKnots_b2 n V x1 x2 x3) (fun V x1 x2 x3 hr => ih V x1 x2 x3 hr) _ x1 x2 x3 0 hr _ _ ls hV hS (lv_sub hl [0, 1, 2, 3] rfl)
        · have hr := ie b_8 hr
          refine lv_iconst (v := 1) hx hb dX2_appendKnots_16 (by decide) ?_
          refine lv_goto (tgt := 21) hx hb dX2_appendKnots_17 (by decide) ?_
          exact K_21 (fun V x1 x2 x3 => f_X2_appendKnots_b2 n V x1 x2 x3) (fun V x1 x2 x3 hr => ih V x1 x2 x3 hr) _ x1 x2 x3 1 hr _ _ ls hV hS (lv_sub hl [0, 1, 2, 3] rfl)
  unfold f_X2_appendKnots at hr
  refine lv_iconst (v := 0) hx hb dX2_appendKnots_0 (by decide) ?_
  refine lv_istore_n (lv' := [(3, .int 0), (0, .ref (b0 + 205)), (1, .int x1), (2, .int x2)]) hx hb dX2_appendKnots_1 rfl hl (by decide) rfl (fun ls hl => ?_)
  exact K_2 500 _ x1 x2 0 hr _ _ ls hV hS (lv_sub hl [1, 2, 3, 0] rfl)
set_option maxHeartbeats 4000000 in
set_option maxRecDepth 100000 in
theorem c_X3_knots (l : Launch) (G : LG) (b0 : Nat) (V : St) (k0 : Nat) (hk0 : kd k0 = 5) (res : Int32) (hr : f_X3_knots V k0 = some res) : Met l yX3_knots (wy yX3_knots cX3_knots 1 (some .int)) (rm 0) (va_Pc [.ref (b0 + k0)] (Iv G b0 V)) (QI G b0 res V) 0 0 (Ab b0) := by
  refine mk_m (by decide +kernel) (Nat.le_of_ble_eq_true rfl) ?_
  intro p e s m below meth c C hV hS ls hl
  obtain ⟨args, hargs⟩ : ∃ z, z = ([.ref (b0 + k0)] : List Value).toArray := ⟨_, rfl⟩
  rw [← hargs] at C ⊢
  obtain ⟨hx, hb, hrt, hml, hown, hts, hlocks, hK, hSv⟩ := id C
  have hl : lv_has ls 1 [(0, .ref (b0 + k0))] := hl
  unfold f_X3_knots at hr
  refine lv_aload_n hx hb dX3_knots_0 rfl (lv_at hl 0 rfl) ?_
  refine g_X3_0 (k := k0) C hV hk0 q_150 dX3_knots_1 ?_
  refine lv_aload_n hx hb dX3_knots_4 rfl (lv_at hl 0 rfl) ?_
  refine g_X3_1 (k := k0) C hV hk0 q_154 dX3_knots_5 ?_
  refine lv_ior hx hb dX3_knots_8 ?_
  exact fin_i C hV hS (Option.some.inj hr) dX3_knots_9
set_option maxHeartbeats 4000000 in
set_option maxRecDepth 100000 in
theorem c_X3_kindAt (l : Launch) (G : LG) (b0 : Nat) (V : St) (k0 : Nat) (hk0 : kd k0 = 5) (x1 : Int32) (res : Int32) (hr : f_X3_kindAt V k0 x1 = some res) : Met l yX3_kindAt (wy yX3_kindAt cX3_kindAt 2 (some .int)) (rm 1) (va_Pc [.ref (b0 + k0), .int x1] (Iv G b0 V)) (QI G b0 res V) 0 0 (Ab b0) := by
  refine mk_m (by decide +kernel) (Nat.le_of_ble_eq_true rfl) ?_
  intro p e s m below meth c C hV hS ls hl
  obtain ⟨args, hargs⟩ : ∃ z, z = ([.ref (b0 + k0), .int x1] : List Value).toArray := ⟨_, rfl⟩
  rw [← hargs] at C ⊢
  obtain ⟨hx, hb, hrt, hml, hown, hts, hlocks, hK, hSv⟩ := id C
  have hl : lv_has ls 2 [(0, .ref (b0 + k0)), (1, .int x1)] := hl
  have K_16 : ∀ (k0 : Nat) (hk0 : kd k0 = 5) (x1 : Int32) (y0 : Int32), f_X3_kindAt_b16 V k0 x1 y0 = some res → ∀ (H : Heap) (locs : List Loc) (ls : Array Slot), Hd G b0 V H → va_S (Ab b0) s.heap H locs → lv_has ls 2 [(0, .ref (b0 + k0)), (1, .int x1)] → W p l e (rm 1) s m args below meth c H locs 0 0 (MQ below (QI G b0 res V) args s 0 0 (Ab b0)) (F0 m 16 ls [.int y0]) := by
    intro k0 hk0 x1 y0 hr H locs ls hV hS hl
    unfold f_X3_kindAt_b16 at hr
    refine lv_aload_n hx hb dX3_kindAt_16 rfl (lv_at hl 0 rfl) ?_
    refine g_X3_1 (k := k0) C hV hk0 q_154 dX3_kindAt_17 ?_
    refine lv_iload_n hx hb dX3_kindAt_20 rfl (lv_at hl 1 rfl) ?_
    obtain ⟨q1, e1, hr⟩ := ob hr
    refine cal_i (run_SN (As := [.int (V k0 1), .int x1]) (rest := [.int y0]) C hV hS (c_X9_isIn l G b0 V (V k0 1) x1 q1 e1) q_623 q_624 q_93 q_625 dk_X9_isIn (rm_ok (by decide) (by decide)) hl.1 rfl (Nat.le_of_ble_eq_true rfl) dX3_kindAt_21 ⟨Nat.zero_le _, Nat.zero_le _⟩) hS (fun H locs hV hS => ?_)
    refine lv_if_eq (tgt := 31) hx hb dX3_kindAt_24 (by decide) (fun b_2 => ?_) (fun b_2 => ?_)
    · have hr := it b_2 hr
      refine lv_iconst (v := 0) hx hb dX3_kindAt_31 (by decide) ?_
      refine lv_iadd hx hb dX3_kindAt_32 ?_
      exact fin_i C hV hS (Option.some.inj hr) dX3_kindAt_33
    · have hr := ie b_2 hr
      refine lv_iconst (v := 2) hx hb dX3_kindAt_27 (by decide) ?_
      refine lv_goto (tgt := 32) hx hb dX3_kindAt_28 (by decide) ?_
      refine lv_iadd hx hb dX3_kindAt_32 ?_
      exact fin_i C hV hS (Option.some.inj hr) dX3_kindAt_33
  unfold f_X3_kindAt at hr
  refine lv_aload_n hx hb dX3_kindAt_0 rfl (lv_at hl 0 rfl) ?_
  refine g_X3_0 (k := k0) C hV hk0 q_150 dX3_kindAt_1 ?_
  refine lv_iload_n hx hb dX3_kindAt_4 rfl (lv_at hl 1 rfl) ?_
  obtain ⟨q3, e3, hr⟩ := ob hr
  refine cal_i (run_SN (As := [.int (V k0 0), .int x1]) (rest := []) C hV hS (c_X9_isIn l G b0 V (V k0 0) x1 q3 e3) q_623 q_624 q_93 q_625 dk_X9_isIn (rm_ok (by decide) (by decide)) hl.1 rfl (Nat.le_of_ble_eq_true rfl) dX3_kindAt_5 ⟨Nat.zero_le _, Nat.zero_le _⟩) hS (fun H locs hV hS => ?_)
  refine lv_if_eq (tgt := 15) hx hb dX3_kindAt_8 (by decide) (fun b_4 => ?_) (fun b_4 => ?_)
  · have hr := it b_4 hr
    refine lv_iconst (v := 0) hx hb dX3_kindAt_15 (by decide) ?_
    exact K_16 k0 hk0 x1 0 hr _ _ ls hV hS (lv_sub hl [0, 1] rfl)
  · have hr := ie b_4 hr
    refine lv_iconst (v := 1) hx hb dX3_kindAt_11 (by decide) ?_
    refine lv_goto (tgt := 16) hx hb dX3_kindAt_12 (by decide) ?_
    exact K_16 k0 hk0 x1 1 hr _ _ ls hV hS (lv_sub hl [0, 1] rfl)
set_option maxHeartbeats 4000000 in
set_option maxRecDepth 100000 in
theorem c_X9_with (l : Launch) (G : LG) (b0 : Nat) (V : St) (x0 : Int32) (x1 : Int32) (x2 : Int32) (res : Int32) (hr : f_X9_with x0 x1 x2 = some res) : Met l yX9_with (wy yX9_with cX9_with 3 (some .int)) (rm 0) (va_Pc [.int x0, .int x1, .int x2] (Iv G b0 V)) (QI G b0 res V) 0 0 (Ab b0) := by
  refine mk_m (by decide +kernel) (Nat.le_of_ble_eq_true rfl) ?_
  intro p e s m below meth c C hV hS ls hl
  obtain ⟨args, hargs⟩ : ∃ z, z = ([.int x0, .int x1, .int x2] : List Value).toArray := ⟨_, rfl⟩
  rw [← hargs] at C ⊢
  obtain ⟨hx, hb, hrt, hml, hown, hts, hlocks, hK, hSv⟩ := id C
  have hl : lv_has ls 3 [(0, .int x0), (1, .int x1), (2, .int x2)] := hl
  unfold f_X9_with at hr
  refine lv_iload_n hx hb dX9_with_0 rfl (lv_at hl 2 rfl) ?_
  refine lv_if_eq (tgt := 12) hx hb dX9_with_1 (by decide) (fun b_1 => ?_) (fun b_1 => ?_)
  · have hr := it b_1 hr
    refine lv_iload_n hx hb dX9_with_12 rfl (lv_at hl 0 rfl) ?_
    refine lv_iconst (v := 1) hx hb dX9_with_13 (by decide) ?_
    refine lv_iload_n hx hb dX9_with_14 rfl (lv_at hl 1 rfl) ?_
    refine lv_ishl hx hb dX9_with_15 ?_
    refine lv_iconst (v := (-1)) hx hb dX9_with_16 (by decide) ?_
    refine lv_ixor hx hb dX9_with_17 ?_
    refine lv_iand hx hb dX9_with_18 ?_
    exact fin_i C hV hS (Option.some.inj hr) dX9_with_19
  · have hr := ie b_1 hr
    refine lv_iload_n hx hb dX9_with_4 rfl (lv_at hl 0 rfl) ?_
    refine lv_iconst (v := 1) hx hb dX9_with_5 (by decide) ?_
    refine lv_iload_n hx hb dX9_with_6 rfl (lv_at hl 1 rfl) ?_
    refine lv_ishl hx hb dX9_with_7 ?_
    refine lv_ior hx hb dX9_with_8 ?_
    refine lv_goto (tgt := 19) hx hb dX9_with_9 (by decide) ?_
    exact fin_i C hV hS (Option.some.inj hr) dX9_with_19
set_option maxHeartbeats 4000000 in
set_option maxRecDepth 100000 in
theorem c_X3_tie (l : Launch) (G : LG) (b0 : Nat) (V : St) (k0 : Nat) (hk0 : kd k0 = 5) (x1 : Int32) (x2 : Int32) (res : St) (hr : f_X3_tie V k0 x1 x2 = some res) : Met l yX3_tie (wy yX3_tie cX3_tie 3 none) (rm 1) (va_Pc [.ref (b0 + k0), .int x1, .int x2] (Iv G b0 V)) (QV G b0 res) 0 0 (Ab b0) := by
  refine mk_m (by decide +kernel) (Nat.le_of_ble_eq_true rfl) ?_
  intro p e s m below meth c C hV hS ls hl
  obtain ⟨args, hargs⟩ : ∃ z, z = ([.ref (b0 + k0), .int x1, .int x2] : List Value).toArray := ⟨_, rfl⟩
  rw [← hargs] at C ⊢
  obtain ⟨hx, hb, hrt, hml, hown, hts, hlocks, hK, hSv⟩ := id C
  have hl : lv_has ls 3 [(0, .ref (b0 + k0)), (1, .int x1), (2, .int x2)] := hl
  have K_40 : ∀ (V : St) (y0 : Int32) (y1 : Int32) (y2 : Int32) (m3 : Nat) (hm3 : kd m3 = 5), f_X3_tie_b40 V y0 y1 y2 m3 = some res → ∀ (H : Heap) (locs : List Loc) (ls : Array Slot), Hd G b0 V H → va_S (Ab b0) s.heap H locs → lv_has ls 3 [] → W p l e (rm 1) s m args below meth c H locs 0 0 (MQ below (QV G b0 res) args s 0 0 (Ab b0)) (F0 m 40 ls [.int y0, .int y1, .int y2, .ref (b0 + m3)]) := by
    intro V y0 y1 y2 m3 hm3 hr H locs ls hV hS hl
    unfold f_X3_tie_b40 at hr
    obtain ⟨q1, e1, hr⟩ := ob hr
    refine cal_i (run_SN (As := [.int y2, .int y1, .int y0]) (rest := [.ref (b0 + m3)]) C hV hS (c_X9_with l G b0 V y2 y1 y0 q1 e1) q_677 q_678 q_93 q_679 dk_X9_with (rm_ok (by decide) (by decide)) hl.1 rfl (Nat.le_of_ble_eq_true rfl) dX3_tie_40 ⟨Nat.zero_le _, Nat.zero_le _⟩) hS (fun H locs hV hS => ?_)
    refine p_X3_1 (k := m3) (x := q1) C hV hS hm3 q_154 dX3_tie_43 (fun H locs hV hS => ?_)
    exact fin_v C hV hS (Option.some.inj hr) dX3_tie_46
  have K_17 : ∀ (V : St) (k0 : Nat) (hk0 : kd k0 = 5) (x1 : Int32) (x2 : Int32) (y0 : Int32) (y1 : Int32) (y2 : Int32) (m3 : Nat) (hm3 : kd m3 = 5), f_X3_tie_b17 V k0 x1 x2 y0 y1 y2 m3 = some res → ∀ (H : Heap) (locs : List Loc) (ls : Array Slot), Hd G b0 V H → va_S (Ab b0) s.heap H locs → lv_has ls 3 [(0, .ref (b0 + k0)), (1, .int x1), (2, .int x2)] → W p l e (rm 1) s m args below meth c H locs 0 0 (MQ below (QV G b0 res) args s 0 0 (Ab b0)) (F0 m 17 ls [.int y0, .int y1, .int y2, .ref (b0 + m3)]) := by
    intro V k0 hk0 x1 x2 y0 y1 y2 m3 hm3 hr H locs ls hV hS hl
    unfold f_X3_tie_b17 at hr
    obtain ⟨q2, e2, hr⟩ := ob hr
    refine cal_i (run_SN (As := [.int y2, .int y1, .int y0]) (rest := [.ref (b0 + m3)]) C hV hS (c_X9_with l G b0 V y2 y1 y0 q2 e2) q_677 q_678 q_93 q_679 dk_X9_with (rm_ok (by decide) (by decide)) hl.1 rfl (Nat.le_of_ble_eq_true rfl) dX3_tie_17 ⟨Nat.zero_le _, Nat.zero_le _⟩) hS (fun H locs hV hS => ?_)
    refine p_X3_0 (k := m3) (x := q2) C hV hS hm3 q_150 dX3_tie_20 (fun H locs hV hS => ?_)
    refine lv_aload_n hx hb dX3_tie_23 rfl (lv_at hl 0 rfl) ?_
    refine lv_aload_n hx hb dX3_tie_24 rfl (lv_at hl 0 rfl) ?_
    refine g_X3_1 (k := k0) C hV hk0 q_154 dX3_tie_25 ?_
    refine lv_iload_n hx hb dX3_tie_28 rfl (lv_at hl 1 rfl) ?_
    refine lv_iload_n hx hb dX3_tie_29 rfl (lv_at hl 2 rfl) ?_
    refine lv_iconst (v := 2) hx hb dX3_tie_30 (by decide) ?_
    refine lv_iand hx hb dX3_tie_31 ?_
    refine lv_if_eq (tgt := 39) hx hb dX3_tie_32 (by decide) (fun b_3 => ?_) (fun b_3 => ?_)
    · have hr := it b_3 hr
      refine lv_iconst (v := 0) hx hb dX3_tie_39 (by decide) ?_
      exact K_40 _ 0 x1 ((up V m3 0 q2) k0 1) k0 hk0 hr _ _ ls hV hS (lv_sub hl [] rfl)
    · have hr := ie b_3 hr
      refine lv_iconst (v := 1) hx hb dX3_tie_35 (by decide) ?_
      refine lv_goto (tgt := 40) hx hb dX3_tie_36 (by decide) ?_
      exact K_40 _ 1 x1 ((up V m3 0 q2) k0 1) k0 hk0 hr _ _ ls hV hS (lv_sub hl [] rfl)
  unfold f_X3_tie at hr
  refine lv_aload_n hx hb dX3_tie_0 rfl (lv_at hl 0 rfl) ?_
  refine lv_aload_n hx hb dX3_tie_1 rfl (lv_at hl 0 rfl) ?_
  refine g_X3_0 (k := k0) C hV hk0 q_150 dX3_tie_2 ?_
  refine lv_iload_n hx hb dX3_tie_5 rfl (lv_at hl 1 rfl) ?_
  refine lv_iload_n hx hb dX3_tie_6 rfl (lv_at hl 2 rfl) ?_
  refine lv_iconst (v := 1) hx hb dX3_tie_7 (by decide) ?_
  refine lv_iand hx hb dX3_tie_8 ?_
  refine lv_if_eq (tgt := 16) hx hb dX3_tie_9 (by decide) (fun b_4 => ?_) (fun b_4 => ?_)
  · have hr := it b_4 hr
    refine lv_iconst (v := 0) hx hb dX3_tie_16 (by decide) ?_
    exact K_17 _ k0 hk0 x1 x2 0 x1 (V k0 0) k0 hk0 hr _ _ ls hV hS (lv_sub hl [0, 1, 2] rfl)
  · have hr := ie b_4 hr
    refine lv_iconst (v := 1) hx hb dX3_tie_12 (by decide) ?_
    refine lv_goto (tgt := 17) hx hb dX3_tie_13 (by decide) ?_
    exact K_17 _ k0 hk0 x1 x2 1 x1 (V k0 0) k0 hk0 hr _ _ ls hV hS (lv_sub hl [0, 1, 2] rfl)
set_option maxHeartbeats 4000000 in
set_option maxRecDepth 100000 in
theorem c_X3_wholeAcross (l : Launch) (G : LG) (b0 : Nat) (V : St) (k0 : Nat) (hk0 : kd k0 = 5) (res : Int32) (hr : f_X3_wholeAcross V k0 = some res) : Met l yX3_wholeAcross (wy yX3_wholeAcross cX3_wholeAcross 1 (some .int)) (rm 0) (va_Pc [.ref (b0 + k0)] (Iv G b0 V)) (QI G b0 res V) 0 0 (Ab b0) := by
  refine mk_m (by decide +kernel) (Nat.le_of_ble_eq_true rfl) ?_
  intro p e s m below meth c C hV hS ls hl
  obtain ⟨args, hargs⟩ : ∃ z, z = ([.ref (b0 + k0)] : List Value).toArray := ⟨_, rfl⟩
  rw [← hargs] at C ⊢
  obtain ⟨hx, hb, hrt, hml, hown, hts, hlocks, hK, hSv⟩ := id C
  have hl : lv_has ls 1 [(0, .ref (b0 + k0))] := hl
  unfold f_X3_wholeAcross at hr
  refine lv_ldc (v := 8255455) hx hb hown (hts _ q_513) dX3_wholeAcross_0 ?_
  refine lv_aload_n hx hb dX3_wholeAcross_2 rfl (lv_at hl 0 rfl) ?_
  refine g_X3_2 (k := k0) C hV hk0 q_158 dX3_wholeAcross_3 ?_
  refine lv_iconst (v := (-1)) hx hb dX3_wholeAcross_6 (by decide) ?_
  refine lv_ixor hx hb dX3_wholeAcross_7 ?_
  refine lv_iand hx hb dX3_wholeAcross_8 ?_
  exact fin_i C hV hS (Option.some.inj hr) dX3_wholeAcross_9
set_option maxHeartbeats 4000000 in
set_option maxRecDepth 100000 in
theorem c_X3_wholeDown (l : Launch) (G : LG) (b0 : Nat) (V : St) (k0 : Nat) (hk0 : kd k0 = 5) (res : Int32) (hr : f_X3_wholeDown V k0 = some res) : Met l yX3_wholeDown (wy yX3_wholeDown cX3_wholeDown 1 (some .int)) (rm 0) (va_Pc [.ref (b0 + k0)] (Iv G b0 V)) (QI G b0 res V) 0 0 (Ab b0) := by
  refine mk_m (by decide +kernel) (Nat.le_of_ble_eq_true rfl) ?_
  intro p e s m below meth c C hV hS ls hl
  obtain ⟨args, hargs⟩ : ∃ z, z = ([.ref (b0 + k0)] : List Value).toArray := ⟨_, rfl⟩
  rw [← hargs] at C ⊢
  obtain ⟨hx, hb, hrt, hml, hown, hts, hlocks, hK, hSv⟩ := id C
  have hl : lv_has ls 1 [(0, .ref (b0 + k0))] := hl
  unfold f_X3_wholeDown at hr
  refine lv_ldc (v := 262143) hx hb hown (hts _ q_518) dX3_wholeDown_0 ?_
  refine lv_aload_n hx hb dX3_wholeDown_2 rfl (lv_at hl 0 rfl) ?_
  refine g_X3_3 (k := k0) C hV hk0 q_159 dX3_wholeDown_3 ?_
  refine lv_iconst (v := (-1)) hx hb dX3_wholeDown_6 (by decide) ?_
  refine lv_ixor hx hb dX3_wholeDown_7 ?_
  refine lv_iand hx hb dX3_wholeDown_8 ?_
  exact fin_i C hV hS (Option.some.inj hr) dX3_wholeDown_9
set_option maxHeartbeats 4000000 in
set_option maxRecDepth 100000 in
theorem c_X9_isAcross (l : Launch) (G : LG) (b0 : Nat) (V : St) (x0 : Int32) (x1 : Int32) (res : Int32) (hr : f_X9_isAcross x0 x1 = some res) : Met l yX9_isAcross (wy yX9_isAcross cX9_isAcross 2 (some .boolean)) (rm 1) (va_Pc [.int x0, .int x1] (Iv G b0 V)) (QI G b0 res V) 0 0 (Ab b0) := by
  refine mk_m (by decide +kernel) (Nat.le_of_ble_eq_true rfl) ?_
  intro p e s m below meth c C hV hS ls hl
  obtain ⟨args, hargs⟩ : ∃ z, z = ([.int x0, .int x1] : List Value).toArray := ⟨_, rfl⟩
  rw [← hargs] at C ⊢
  obtain ⟨hx, hb, hrt, hml, hown, hts, hlocks, hK, hSv⟩ := id C
  have hl : lv_has ls 2 [(0, .int x0), (1, .int x1)] := hl
  unfold f_X9_isAcross at hr
  refine lv_iload_n hx hb dX9_isAcross_0 rfl (lv_at hl 0 rfl) ?_
  refine lv_iload_n hx hb dX9_isAcross_1 rfl (lv_at hl 1 rfl) ?_
  refine r_max (D := 0) C q_705 q_706 q_112 q_707 hl.1 ⟨rfl, rfl⟩ (Nat.le_of_ble_eq_true rfl) ⟨Nat.zero_le _, Nat.zero_le _⟩ dX9_isAcross_2 ?_
  refine W.eq (g2 := F0 m 5 ls [.int (imax x0 x1)]) rfl ?_
  refine lv_iload_n hx hb dX9_isAcross_5 rfl (lv_at hl 0 rfl) ?_
  refine lv_iload_n hx hb dX9_isAcross_6 rfl (lv_at hl 1 rfl) ?_
  refine r_min (D := 0) C q_702 q_703 q_112 q_704 hl.1 ⟨rfl, rfl⟩ (Nat.le_of_ble_eq_true rfl) ⟨Nat.zero_le _, Nat.zero_le _⟩ dX9_isAcross_7 ?_
  refine W.eq (g2 := F0 m 10 ls [.int (imin x0 x1), .int (imax x0 x1)]) rfl ?_
  refine lv_isub hx hb dX9_isAcross_10 ?_
  refine lv_iconst (v := 1) hx hb dX9_isAcross_11 (by decide) ?_
  refine lv_icmp_ne (tgt := 19) hx hb dX9_isAcross_12 (by decide) (fun b_1 => ?_) (fun b_1 => ?_)
  · have hr := ie b_1 hr
    refine lv_iconst (v := 0) hx hb dX9_isAcross_19 (by decide) ?_
    exact fin_z C hV hS (by decide) (Option.some.inj hr) dX9_isAcross_20
  · have hr := it b_1 hr
    refine lv_iconst (v := 1) hx hb dX9_isAcross_15 (by decide) ?_
    refine lv_goto (tgt := 20) hx hb dX9_isAcross_16 (by decide) ?_
    exact fin_z C hV hS (by decide) (Option.some.inj hr) dX9_isAcross_20
